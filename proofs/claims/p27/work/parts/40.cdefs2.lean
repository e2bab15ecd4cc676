/-! ===== the class: what its own methods answer ===== -/
def cIx (r : Nat → Int → Option Nat) (τ : sT) (num : Int) : Int := ff (fun k => decide (τ 30 (ad r 0 k) = num)) (τ 53 0)
def cDk (τ : sT) (m : Nat) : Bool := (decide (¬ τ 2 0 = 0) || !(cdd (τ 34 m) 0)) && (decide (¬ τ 2 1 = 0) || !(cdd (τ 34 m) 1))
def cTk (τ : sT) (m : Nat) (f : Int) : Int := if ¬ τ 2 f = 0 ∨ cdd (τ 34 m) f = false then 0 else if τ 34 m = 2 ∧ τ 2 (1 - f) = 0 then (if f = 0 then τ 32 m - τ 32 m / 2 else τ 32 m / 2) else τ 32 m
def cKt (r : Nat → Int → Option Nat) (τ : sT) (k : Int) : Int := if cDk τ (ad r 0 k) = true then 1 else 0
def cPt (r : Nat → Int → Option Nat) (τ : sT) (k f j : Int) : Int := if τ 35 (ad r 0 j) / 20 = k then cTk τ (ad r 0 j) f else 0
def cHt (r : Nat → Int → Option Nat) (τ : sT) (row j : Int) : Int := if τ 40 (ad r 2 (τ 35 (ad r 0 j) / 20)) = row ∧ cDk τ (ad r 0 j) = false then τ 32 (ad r 0 j) else 0
abbrev PC (r : Nat → Int → Option Nat) (τ : sT) : Prop := ∀ k : Int, 0 ≤ k → k < τ 53 0 → 0 ≤ τ 35 (ad r 0 k) ∧ τ 35 (ad r 0 k) / 20 < τ 55 0 ∧ τ 35 (ad r 0 k) + τ 31 (ad r 0 k) ≤ 160
abbrev cKD (n p w c : Int) : Prop := (1 ≤ n ∧ n ≤ 6) ∧ (0 ≤ p ∧ p ≤ 2000) ∧ (0 ≤ w ∧ w ≤ 1000) ∧ (0 ≤ c ∧ c ≤ 2)
theorem CV.newm {K : Nat → Nat} {r : Nat → Int → Option Nat} {cp : Nat → Nat} {τ : sT} (h : CV K r cp τ) {q : Nat} (hq : K q ≠ 1 ∧ K q ≠ 2) {n p w c : Int} (hkd : cKD n p w c) : CV (kup K q 1) r cp (smo τ q (τ 0 0) n p w c) := by
  have e : ∀ f, f < 30 ∨ 36 < f → smo τ q (τ 0 0) n p w c f = τ f := fun f hf => smo_lo hf
  obtain ⟨hM, hR, hL0, hL1, hL2, hS⟩ := h
  have h0 := hS.2.2.2.2
  refine ⟨fun a ha => ?_, fun a ha => ?_, ?_, ?_, ?_, ?_⟩
  · by_cases z : a = q
    · subst z
      unfold Mb
      rw [show smo τ a (τ 0 0) n p w c 30 (a : Int) = τ 0 0 from iup_s _ _ _, show smo τ a (τ 0 0) n p w c 31 (a : Int) = n from iup_s _ _ _, show smo τ a (τ 0 0) n p w c 32 (a : Int) = p from iup_s _ _ _, show smo τ a (τ 0 0) n p w c 33 (a : Int) = w from iup_s _ _ _, show smo τ a (τ 0 0) n p w c 34 (a : Int) = c from iup_s _ _ _, show smo τ a (τ 0 0) n p w c 35 (a : Int) = -1 from iup_s _ _ _, show smo τ a (τ 0 0) n p w c 36 (a : Int) = -1 from iup_s _ _ _]
      omega
    · rw [kup_n z] at ha
      unfold Mb
      simp only [smo_ne z]
      exact hM a ha
  · by_cases z : a = q
    · subst z; rw [kup_s] at ha; cases ha
    · rw [kup_n z] at ha
      unfold Rb
      simp only [smo_ne z]
      exact hR a ha
  · unfold Ls0
    rw [e 53 (by omega)]
    refine ⟨hL0.1, hL0.2.1, hL0.2.2.1, hL0.2.2.2.1, fun k h1 h2 => ?_⟩
    have := hL0.2.2.2.2 k h1 h2
    refine ⟨this.1, ?_⟩
    rw [kup_n (fun z => hq.1 (by rw [← z]; exact this.2))]
    exact this.2
  · unfold Ls1
    rw [e 54 (by omega)]
    refine ⟨hL1.1, hL1.2.1, hL1.2.2.1, hL1.2.2.2.1, fun k h1 h2 => ?_⟩
    have := hL1.2.2.2.2 k h1 h2
    refine ⟨this.1, ?_⟩
    rw [kup_n (fun z => hq.1 (by rw [← z]; exact this.2))]
    exact this.2
  · unfold Ls2
    rw [e 55 (by omega)]
    refine ⟨hL2.1, hL2.2.1, hL2.2.2.1, hL2.2.2.2.1, fun k h1 h2 => ?_⟩
    have := hL2.2.2.2.2 k h1 h2
    refine ⟨this.1, ?_⟩
    rw [kup_n (fun z => hq.2 (by rw [← z]; exact this.2))]
    exact this.2
  · unfold Sb
    rw [e 20 (by omega), e 21 (by omega), e 22 (by omega), e 2 (by omega), e 0 (by omega)]
    exact hS
theorem Wb_smo {τ : sT} {b q : Nat} (hb : b = 5 ∨ b = 12) (h : Wb τ b) (n s p w c : Int) : Wb (smo τ q n s p w c) b := by
  unfold Wb
  rw [smo_lo (f := b + 1) (by omega), smo_lo (f := b + 2) (by omega), smo_lo (f := b + 3) (by omega), smo_lo (f := b + 5) (by omega), smo_lo (f := b + 6) (by omega)]
  exact h
theorem cML_smo {r : Nat → Int → Option Nat} {τ : sT} {b q : Nat} (hb : b = 5 ∨ b = 12) (hq : ∀ k : Int, 0 ≤ k → k < τ 55 0 → ad r 2 k ≠ q) (h : cML r τ b) (n s p w c : Int) : cML r (smo τ q n s p w c) b := by
  have e40 : ∀ f, 36 < f ∨ f < 30 → smo τ q n s p w c f = τ f := fun f hf => smo_lo (by omega)
  have es : ∀ f row, f < 30 → cSum r (smo τ q n s p w c) f row = cSum r τ f row := fun f row hf => by
    unfold cSum cSR
    rw [e40 55 (by omega), e40 40 (by omega), e40 f (by omega)]
  unfold cML
  refine ⟨fun k h1 h2 => ?_, fun row h1 h2 => ?_⟩
  · rw [e40 (b + 2) (by omega), e40 (b + 5) (by omega), e40 (b + 6) (by omega), e40 42 (by omega), e40 43 (by omega)]
    exact h.1 k h1 (by rw [e40 55 (by omega)] at h2; exact h2)
  · rw [es (b + 2) row (by omega), es (b + 3) row (by omega), e40 20 (by omega), e40 21 (by omega)]
    exact h.2 row h1 h2
theorem ior_p2 {r a : Int} (hr : 0 ≤ r ∧ r < 8) (ha : 0 ≤ a ∧ a < p2 r) : iI a ||| iI (p2 r) = iI (a + p2 r) := by
  have h := (by decide +kernel : ∀ r : Fin 8, ∀ a : Fin 128, (a : Nat) < 2 ^ (r : Nat) → iI ((a : Nat) : Int) ||| iI ((2 : Int) ^ (r : Nat)) = iI (((a : Nat) : Int) + (2 : Int) ^ (r : Nat)))
  have e2 : p2 r = (((2 ^ r.toNat : Nat)) : Int) := by unfold p2; exact (Int.natCast_pow 2 r.toNat).symm
  have hl : (2 : Nat) ^ r.toNat ≤ 2 ^ 7 := Nat.pow_le_pow_right (by decide) (by omega)
  have h1 := h ⟨r.toNat, by omega⟩ ⟨a.toNat, by omega⟩ (by show a.toNat < 2 ^ r.toNat; omega)
  simp only [] at h1
  rw [show ((a.toNat : Nat) : Int) = a by omega] at h1
  exact h1
section VIOR
variable {p : Program} {l : Launch} {e : Env} {R : Room} {s : State} {m : MethodId} {args : Array Value} {below : List Frame} {meth : Method} {c : Code} {Q : State → Prop} {nl : Nat} {g : gT} {A : Nat → Prop} {h : fH} {cells slots pc : Nat} {lo lo' : List (Option Value)} {st : List Value} {cc : ByteArray} {ret : Option FieldType} {own : String}
theorem v_iorp (F : Fx p l s m args meth c cc nl ret own g A) {r a : Int} (d : decode cc pc = .ok (.ior, 1)) (hr : 0 ≤ r ∧ r < 8) (ha : 0 ≤ a ∧ a < p2 r) (k : V p l e R s m args below meth c Q nl g A h cells slots (pc + 1) lo (.int (iI (a + p2 r)) :: st)) : V p l e R s m args below meth c Q nl g A h cells slots pc lo (.int (iI (p2 r)) :: .int (iI a) :: st) :=
  fun H locs ls hP hS hl => lv_ior F.1 F.2.1 d (by rw [ior_p2 hr ha]; exact k H locs ls hP hS hl)
end VIOR
def cRt (r : Nat → Int → Option Nat) (τ : sT) (w : Nat) (m : Nat) (k : Int) : Int := if cFit r τ w k m = -1 then 0 else p2 k
theorem cRt_rng {r : Nat → Int → Option Nat} {τ : sT} {w : Nat} {m : Nat} {k : Int} (h0 : 0 ≤ k) (h8 : k ≤ 8) : 0 ≤ sm (cRt r τ w m) k ∧ sm (cRt r τ w m) k < p2 k := by
  refine sm_ind (p := fun k => 0 ≤ sm (cRt r τ w m) k ∧ sm (cRt r τ w m) k < p2 k) k ⟨Int.le_refl (0 : Int), (by decide : (0 : Int) < 1)⟩ (fun j q0 q1 hj => ?_) h0
  rw [sm_s _ q0]
  have e : p2 (j + 1) = 2 * p2 j := by
    unfold p2
    rw [show (j + 1).toNat = j.toNat + 1 by omega, Int.pow_succ]
    omega
  unfold cRt at *
  split <;> omega
/-- the counts of all rows, and of the feeds -/
def cCA (r : Nat → Int → Option Nat) (τ : sT) (w : Nat) (m : Nat) : Int := cAM (cAM (sm (fun row => cCW r τ w row m) 4) (τ 22 0 - cAll τ (w + 5)) (m_pw (τ 34 m) 0 (τ 32 m))) (τ 22 1 - cAll τ (w + 6)) (m_pw (τ 34 m) 1 (τ 32 m))
theorem cCW_rng {K : Nat → Nat} {r : Nat → Int → Option Nat} {cp : Nat → Nat} {τ : sT} {w : Nat} {m : Nat} {row : Int} (hV : CV K r cp τ) (hW : Wb τ w) (hML : cML r τ w) (hm : K m = 1) (h0 : 0 ≤ row) (h4 : row < 4) : 0 ≤ cCW r τ w row m ∧ cCW r τ w row m ≤ 160 := by
  have h1 := cCt_rng (row := row) hV hW hML hm (k := τ 55 0) hV.2.2.2.2.1.1 (Int.le_refl _)
  have h2 := hML.2 row h0 h4
  have h3 := cAM_rng (q := τ 21 row - cSum r τ (w + 2) row) (u := τ 33 m) h1.1 (by omega)
  have h5 := cAM_rng (q := τ 20 row - cSum r τ (w + 3) row) (u := τ 32 m) h3.1 (by omega)
  unfold cCW
  omega
