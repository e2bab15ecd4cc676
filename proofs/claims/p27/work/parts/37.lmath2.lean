/-! ===== the layouts: what changes ===== -/
theorem sf_su (τ : sT) (f : Nat) (G : Int → Int) (z v : Int) : su (sf τ f G) f z v = sf τ f (iup G z v) := by
  funext f'
  by_cases h : f' = f
  · subst h
    rw [su_s, sf_s, sf_s]
  · rw [su_n h, sf_n h, sf_n h]
theorem sf_id (τ : sT) (f : Nat) : sf τ f (τ f) = τ := by
  funext f'
  by_cases h : f' = f
  · subst h
    rw [sf_s]
  · rw [sf_n h]
theorem cFl_s {F : Int → Int} {lo j v : Int} (hj : 0 ≤ j) : iup (cFl F lo j v) (lo + j) v = cFl F lo (j + 1) v := by
  funext z
  unfold iup cFl
  by_cases h1 : z = lo + j
  · rw [if_pos h1, if_pos (by omega)]
  · rw [if_neg h1]
    by_cases h2 : lo ≤ z ∧ z < lo + j
    · rw [if_pos h2, if_pos (by omega)]
    · rw [if_neg h2, if_neg (by omega)]
theorem cFl_0 (F : Int → Int) (lo v : Int) : cFl F lo 0 v = F := by
  funext z
  unfold cFl
  rw [if_neg (by omega)]
def cFil (F : Int → Int) (n v : Int) : Int → Int := fun j => if 0 ≤ j ∧ j < n then v else F j
theorem kl_fill (l : Launch) (g : gT) {h h' : fH} {a n : Nat} {f : Int → Int} (ha : h a = some (iar (g.2.1 0) n f)) (hn : n ≤ 1000) (v : Int) (hh : f_up h a (iar (g.2.1 0) n (cFil f n v)) = h') : CM l g yJ7_fill_53178 cJ7_fill_53178 4 none { frames := 1, cells := 0, slots := 0, locals := 20 } [.ref a, .int (iI v)] h (pV none h') noX := by
  subst hh
  exact k_J7_fill_53178 l g ha hn v
def cClA (τ : sT) (w : Nat) : sT := sf (sf (sf (sf (sf τ (w + 1) (cFil (τ (w + 1)) 160 (-1))) (w + 2) (cFil (τ (w + 2)) 8 0)) (w + 3) (cFil (τ (w + 3)) 8 0)) (w + 5) (cFil (τ (w + 5)) 8 0)) (w + 6) (cFil (τ (w + 6)) 8 0)
def cCpA (τ : sT) (w w2 : Nat) : sT := sf (sf (sf (sf (sf τ (w + 1) (icpI (τ (w2 + 1)) (τ (w + 1)) 0 0 160)) (w + 2) (icpI (τ (w2 + 2)) (τ (w + 2)) 0 0 8)) (w + 3) (icpI (τ (w2 + 3)) (τ (w + 3)) 0 0 8)) (w + 5) (icpI (τ (w2 + 5)) (τ (w + 5)) 0 0 8)) (w + 6) (icpI (τ (w2 + 6)) (τ (w + 6)) 0 0 8)
def cUp (r : Nat → Int → Option Nat) (τ : sT) (w : Nat) (k : Int) (m : Nat) : Nat → sT
  | 0 => τ
  | j + 1 => cPut (cUp r τ w k m j) w m (cFit r (cUp r τ w k m j) w k m)
/-- the fields that no layout holds -/
def cfix (f : Nat) : Bool := decide (f = 0) || decide (f = 2) || decide (f = 20) || decide (f = 21) || decide (f = 22) || decide (30 ≤ f ∧ f ≤ 36) || decide (40 ≤ f ∧ f ≤ 43) || decide (50 ≤ f)
theorem CV.of {K : Nat → Nat} {r : Nat → Int → Option Nat} {cp : Nat → Nat} {τ τ' : sT} (h : CV K r cp τ) (e : ∀ f, cfix f = true → τ' f = τ f) : CV K r cp τ' := by
  unfold CV Mb Rb Ls0 Ls1 Ls2 Sb
  rw [e 0 rfl, e 2 rfl, e 20 rfl, e 21 rfl, e 22 rfl, e 30 rfl, e 31 rfl, e 32 rfl, e 33 rfl, e 34 rfl, e 35 rfl, e 36 rfl, e 40 rfl, e 41 rfl, e 42 rfl, e 43 rfl, e 53 rfl, e 54 rfl, e 55 rfl]
  exact h
theorem lay_fix {w f : Nat} {i : Nat} (hw : w = 5 ∨ w = 12) (hi : 1 ≤ i ∧ i ≤ 6) (hf : cfix f = true) : f ≠ w + i := by
  intro z
  subst z
  rcases hw with rfl | rfl <;> rcases (show i = 1 ∨ i = 2 ∨ i = 3 ∨ i = 4 ∨ i = 5 ∨ i = 6 by omega) with rfl | rfl | rfl | rfl | rfl | rfl <;> exact absurd hf (by decide)
theorem cAdd_fix {τ : sT} {w : Nat} {k sg : Int} {m f : Nat} (hw : w = 5 ∨ w = 12) (hf : cfix f = true) : cAdd τ w k m sg f = τ f := by
  unfold cAdd
  rw [su_n (lay_fix hw (by omega) hf), su_n (lay_fix hw (by omega) hf), su_n (lay_fix hw (by omega) hf), su_n (lay_fix hw (by omega) hf)]
theorem cPut_fix {τ : sT} {w : Nat} {c : Int} {m f : Nat} (hw : w = 5 ∨ w = 12) (hf : cfix f = true) : cPut τ w m c f = τ f := by
  unfold cPut
  rw [cAdd_fix hw hf, sf_n (lay_fix hw (by omega) hf)]
theorem cClr_fix {τ : sT} {w : Nat} {m f : Nat} (hw : w = 5 ∨ w = 12) (hf : cfix f = true) : cClr τ w m f = τ f := by
  unfold cClr
  rw [cAdd_fix hw hf, sf_n (lay_fix hw (by omega) hf)]
theorem cUp_fix {r : Nat → Int → Option Nat} {τ : sT} {w : Nat} {k : Int} {m f : Nat} (hw : w = 5 ∨ w = 12) (hf : cfix f = true) : ∀ j, cUp r τ w k m j f = τ f
  | 0 => rfl
  | j + 1 => by
    show cPut _ w m _ f = _
    rw [cPut_fix hw hf, cUp_fix hw hf j]
theorem cClA_fix {τ : sT} {w f : Nat} (hw : w = 5 ∨ w = 12) (hf : cfix f = true) : cClA τ w f = τ f := by
  unfold cClA
  rw [sf_n (lay_fix hw (by omega) hf), sf_n (lay_fix hw (by omega) hf), sf_n (lay_fix hw (by omega) hf), sf_n (lay_fix hw (by omega) hf), sf_n (lay_fix hw (by omega) hf)]
theorem cCpA_fix {τ : sT} {w w2 f : Nat} (hw : w = 5 ∨ w = 12) (hf : cfix f = true) : cCpA τ w w2 f = τ f := by
  unfold cCpA
  rw [sf_n (lay_fix hw (by omega) hf), sf_n (lay_fix hw (by omega) hf), sf_n (lay_fix hw (by omega) hf), sf_n (lay_fix hw (by omega) hf), sf_n (lay_fix hw (by omega) hf)]
/-- a layout's contents after a put -/
theorem lay_ne {w i j : Nat} (h : i ≠ j) : w + i ≠ w + j := by omega
theorem cAdd_1 {τ : sT} {w : Nat} {k sg : Int} {m : Nat} : cAdd τ w k m sg (w + 1) = τ (w + 1) := by
  unfold cAdd
  rw [su_n (by omega), su_n (by omega), su_n (by omega), su_n (by omega)]
theorem cAdd_2 {τ : sT} {w : Nat} {k sg : Int} {m : Nat} : cAdd τ w k m sg (w + 2) = iup (τ (w + 2)) k (τ (w + 2) k + sg * τ 33 m) := by
  unfold cAdd
  rw [su_n (by omega), su_n (by omega), su_n (by omega), su_s]
theorem cAdd_3 {τ : sT} {w : Nat} {k sg : Int} {m : Nat} : cAdd τ w k m sg (w + 3) = iup (τ (w + 3)) k (τ (w + 3) k + sg * τ 32 m) := by
  unfold cAdd
  rw [su_n (by omega), su_n (by omega), su_s, su_n (by omega)]
theorem cAdd_5 {τ : sT} {w : Nat} {k sg : Int} {m : Nat} : cAdd τ w k m sg (w + 5) = iup (τ (w + 5)) k (τ (w + 5) k + sg * m_pw (τ 34 m) 0 (τ 32 m)) := by
  unfold cAdd
  rw [su_n (by omega), su_s, su_n (by omega), su_n (by omega)]
theorem cAdd_6 {τ : sT} {w : Nat} {k sg : Int} {m : Nat} : cAdd τ w k m sg (w + 6) = iup (τ (w + 6)) k (τ (w + 6) k + sg * m_pw (τ 34 m) 1 (τ 32 m)) := by
  unfold cAdd
  rw [su_s, su_n (by omega), su_n (by omega), su_n (by omega)]
theorem sf_m {τ : sT} {w : Nat} (hw : w = 5 ∨ w = 12) {F : Int → Int} {f : Nat} (hf : 30 ≤ f ∧ f ≤ 36) : sf τ (w + 1) F f = τ f := sf_n (by omega)
theorem cPut_1 {τ : sT} {w : Nat} {m : Nat} {c : Int} : cPut τ w m c (w + 1) = cFl (τ (w + 1)) c (τ 31 m) (τ 30 m) := by
  unfold cPut; rw [cAdd_1, sf_s]
theorem cPut_2 {τ : sT} {w : Nat} (hw : w = 5 ∨ w = 12) {m : Nat} {c : Int} : cPut τ w m c (w + 2) = iup (τ (w + 2)) (c / 20) (τ (w + 2) (c / 20) + τ 33 m) := by
  unfold cPut; rw [cAdd_2, sf_n (by omega), sf_m hw (by omega), Int.one_mul]
theorem cPut_3 {τ : sT} {w : Nat} (hw : w = 5 ∨ w = 12) {m : Nat} {c : Int} : cPut τ w m c (w + 3) = iup (τ (w + 3)) (c / 20) (τ (w + 3) (c / 20) + τ 32 m) := by
  unfold cPut; rw [cAdd_3, sf_n (by omega), sf_m hw (by omega), Int.one_mul]
theorem cPut_5 {τ : sT} {w : Nat} (hw : w = 5 ∨ w = 12) {m : Nat} {c : Int} : cPut τ w m c (w + 5) = iup (τ (w + 5)) (c / 20) (τ (w + 5) (c / 20) + m_pw (τ 34 m) 0 (τ 32 m)) := by
  unfold cPut; rw [cAdd_5, sf_n (by omega), sf_m hw (by omega), sf_m hw (by omega), Int.one_mul]
theorem cPut_6 {τ : sT} {w : Nat} (hw : w = 5 ∨ w = 12) {m : Nat} {c : Int} : cPut τ w m c (w + 6) = iup (τ (w + 6)) (c / 20) (τ (w + 6) (c / 20) + m_pw (τ 34 m) 1 (τ 32 m)) := by
  unfold cPut; rw [cAdd_6, sf_n (by omega), sf_m hw (by omega), sf_m hw (by omega), Int.one_mul]
/-- bounds of a layout's loads, narrower -/
abbrev Wn (τ : sT) (w : Nat) (B : Int) : Prop := (∀ z : Int, 0 ≤ z → z < 160 → -1 ≤ τ (w + 1) z ∧ τ (w + 1) z ≤ 1000000) ∧ (∀ z : Int, 0 ≤ z → z < 8 → -B ≤ τ (w + 2) z ∧ τ (w + 2) z ≤ B) ∧ (∀ z : Int, 0 ≤ z → z < 8 → -B ≤ τ (w + 3) z ∧ τ (w + 3) z ≤ B) ∧ (∀ z : Int, 0 ≤ z → z < 8 → -B ≤ τ (w + 5) z ∧ τ (w + 5) z ≤ B) ∧ (∀ z : Int, 0 ≤ z → z < 8 → -B ≤ τ (w + 6) z ∧ τ (w + 6) z ≤ B)
theorem Wn.wb {τ : sT} {w : Nat} {B : Int} (h : Wn τ w B) (hB : B ≤ 1000000) : Wb τ w :=
  ⟨h.1, fun z a b => by have := h.2.1 z a b; omega, fun z a b => by have := h.2.2.1 z a b; omega, fun z a b => by have := h.2.2.2.1 z a b; omega, fun z a b => by have := h.2.2.2.2 z a b; omega⟩
theorem iup_rng {F : Int → Int} {k v B C : Int} (hF : ∀ z : Int, 0 ≤ z → z < 8 → -B ≤ F z ∧ F z ≤ B) (hC : B ≤ C) (hv : -C ≤ v ∧ v ≤ C) : ∀ z : Int, 0 ≤ z → z < 8 → -C ≤ iup F k v z ∧ iup F k v z ≤ C := by
  intro z a b
  by_cases h : z = k
  · subst h; rw [iup_s]; exact hv
  · rw [iup_n h]; have := hF z a b; omega
theorem Wn.put {τ : sT} {w : Nat} {B c : Int} {m : Nat} (hw : w = 5 ∨ w = 12) (h : Wn τ w B) (hm : Mb τ m) (hc : 0 ≤ c ∧ c < 160) : Wn (cPut τ w m c) w (B + 2000) := by
  have h0 := m_pw_2000 (c := τ 34 m) (f := 0) hm.2.2.1
  have h1 := m_pw_2000 (c := τ 34 m) (f := 1) hm.2.2.1
  refine ⟨?_, ?_, ?_, ?_, ?_⟩
  · rw [cPut_1]
    intro z a b
    unfold cFl
    split
    · omega
    · exact h.1 z a b
  · rw [cPut_2 hw]; exact iup_rng h.2.1 (by omega) (by have := h.2.1 (c / 20) (by omega) (by omega); omega)
  · rw [cPut_3 hw]; exact iup_rng h.2.2.1 (by omega) (by have := h.2.2.1 (c / 20) (by omega) (by omega); omega)
  · rw [cPut_5 hw]; exact iup_rng h.2.2.2.1 (by omega) (by have := h.2.2.2.1 (c / 20) (by omega) (by omega); omega)
  · rw [cPut_6 hw]; exact iup_rng h.2.2.2.2 (by omega) (by have := h.2.2.2.2 (c / 20) (by omega) (by omega); omega)
