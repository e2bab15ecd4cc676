/-! ===== filling racks with machines of one kind: as many as are counted ===== -/
theorem low_facts (e : Int → Bool) {n : Int} (hn : 1 ≤ n) {t : Int} (h0 : 0 ≤ t) (h1 : ∀ j, 0 ≤ j → j < t → fr e (j + 1) ≠ n) : rn e n t = (0, fr e t) ∧ fr e t < n := by
  refine sm_ind (p := fun u => u ≤ t → rn e n u = (0, fr e u) ∧ fr e u < n) t (fun _ => ⟨rfl, ?_⟩) (fun k a _ ih hle => ?_) h0 (Int.le_refl _)
  · show (0 : Int) < n
    omega
  · obtain ⟨i1, i2⟩ := ih (by omega)
    have hk := h1 k a (by omega)
    rw [fr_s e a] at hk
    rw [rn_s e n a, fr_s e a, i1]
    show (if (if e k = true then fr e k + 1 else 0) = n then ((0 : Int) + 1, (0 : Int)) else (0, if e k = true then fr e k + 1 else 0)) = (0, if e k = true then fr e k + 1 else 0) ∧ (if e k = true then fr e k + 1 else 0) < n
    rw [if_neg hk]
    refine ⟨rfl, ?_⟩
    by_cases c : e k = true
    · rw [if_pos c] at hk ⊢; omega
    · rw [if_neg c]; omega
theorem rn_clear {e e' : Int → Bool} {n S : Int} (hn : 1 ≤ n) (hS : 0 ≤ S) (hl : low e n S ≠ -1) (he : ∀ t, 0 ≤ t → t < S → e' t = (if low e n S - n + 1 ≤ t ∧ t ≤ low e n S then false else e t)) : (rn e n S).1 = (rn e' n S).1 + 1 := by
  obtain ⟨L, hLd⟩ : ∃ L, low e n S = L := ⟨_, rfl⟩
  rw [hLd] at hl he
  rcases ff_cases (fun s => decide (fr e (s + 1) = n)) hS with z | ⟨z0, z1, z2, z3⟩
  · exact absurd (hLd.symm.trans z.1) hl
  · have eL : ff (fun s => decide (fr e (s + 1) = n)) S = L := hLd
    rw [eL] at z0 z1 z2 z3
    have hL : fr e (L + 1) = n := of_decide_eq_true z2
    have hno : ∀ j, 0 ≤ j → j < L → fr e (j + 1) ≠ n := fun j a b => of_decide_eq_false (z3 j a b)
    have hpre := low_facts e hn z0 hno
    have hge : n - 1 ≤ L := by have := fr_rng e (s := L + 1) (by omega); omega
    have p1 : (rn e' n (L - n + 1)).1 = 0 := by
      rw [rn_cong (e' := e) (by omega) (fun j a b => by rw [he j a (by omega), if_neg (by omega)]), (low_facts e hn (t := L - n + 1) (by omega) (fun j a b => hno j a (by omega))).1]
    have p2 : ∀ d, 0 ≤ d → d ≤ n → (rn e' n (L - n + 1 + d)).1 = 0 ∧ (0 < d → (rn e' n (L - n + 1 + d)).2 = 0) := by
      intro d hd
      refine sm_ind (p := fun d => d ≤ n → (rn e' n (L - n + 1 + d)).1 = 0 ∧ (0 < d → (rn e' n (L - n + 1 + d)).2 = 0)) d (fun _ => ⟨by rw [Int.add_zero]; exact p1, fun z => by omega⟩) (fun k a _ ih hle => ?_) hd
      have i1 := (ih (by omega)).1
      have ek : e' (L - n + 1 + k) = false := by rw [he _ (by omega) (by omega), if_pos (by omega)]
      rw [show L - n + 1 + (k + 1) = L - n + 1 + k + 1 by omega, rn_s e' n (by omega), ek, if_neg (show ¬ (false = true) by decide), if_neg (show ¬ (0 : Int) = n by omega)]
      exact ⟨i1, fun _ => rfl⟩
    have p3 := p2 n (by omega) (Int.le_refl _)
    rw [show L - n + 1 + n = L + 1 by omega] at p3
    have q3 : rn e n (L + 1) = (1, 0) := by
      rw [fr_s e z0] at hL
      rw [rn_s e n z0, hpre.1]
      show (if (if e L = true then fr e L + 1 else 0) = n then ((0 : Int) + 1, (0 : Int)) else (0, if e L = true then fr e L + 1 else 0)) = (1, 0)
      rw [if_pos hL]
      rfl
    have p4 : ∀ d, 0 ≤ d → L + 1 + d ≤ S → (rn e n (L + 1 + d)).1 = (rn e' n (L + 1 + d)).1 + 1 ∧ (rn e n (L + 1 + d)).2 = (rn e' n (L + 1 + d)).2 := by
      intro d hd
      refine sm_ind (p := fun d => L + 1 + d ≤ S → (rn e n (L + 1 + d)).1 = (rn e' n (L + 1 + d)).1 + 1 ∧ (rn e n (L + 1 + d)).2 = (rn e' n (L + 1 + d)).2) d (fun _ => ?_) (fun k a _ ih hle => ?_) hd
      · rw [Int.add_zero, q3, p3.1, p3.2 (by omega)]
        exact ⟨rfl, rfl⟩
      · obtain ⟨i1, i2⟩ := ih (by omega)
        have ek : e' (L + 1 + k) = e (L + 1 + k) := by rw [he _ (by omega) (by omega), if_neg (by omega)]
        rw [show L + 1 + (k + 1) = L + 1 + k + 1 by omega, rn_s e n (by omega), rn_s e' n (by omega), ek, ← i2]
        by_cases c : (if e (L + 1 + k) = true then (rn e n (L + 1 + k)).2 + 1 else 0) = n
        · rw [if_pos c, if_pos c]
          exact ⟨by show _ + 1 = _ + 1 + 1; omega, rfl⟩
        · rw [if_neg c, if_neg c]
          exact ⟨i1, rfl⟩
    have := (p4 (S - (L + 1)) (by omega) (by omega)).1
    rw [show L + 1 + (S - (L + 1)) = S by omega] at this
    exact this
theorem rn_none {e : Int → Bool} {n S : Int} (hn : 1 ≤ n) (hS : 0 ≤ S) (hl : low e n S = -1) : (rn e n S).1 = 0 := by
  rcases ff_cases (fun s => decide (fr e (s + 1) = n)) hS with z | ⟨z0, z1, z2, z3⟩
  · rw [(low_facts e hn hS (fun j a b => of_decide_eq_false (z.2 j a b))).1]
  · have eL : ff (fun s => decide (fr e (s + 1) = n)) S = -1 := hl
    omega
theorem rn_some {e : Int → Bool} {n S : Int} (hn : 1 ≤ n) (hS : 0 ≤ S) (hl : low e n S ≠ -1) : 1 ≤ (rn e n S).1 := by
  have h1 := rn_clear (e' := fun t => if low e n S - n + 1 ≤ t ∧ t ≤ low e n S then false else e t) hn hS hl (fun t _ _ => rfl)
  have h2 := rn_rng (fun t => if low e n S - n + 1 ≤ t ∧ t ≤ low e n S then false else e t) n hS
  omega
theorem am_le {a q u x : Int} (hu : 0 ≤ u) (hq : 0 ≤ q) : x ≤ cAM a q u ↔ x ≤ a ∧ x * u ≤ q := by
  unfold cAM
  by_cases h : u ≤ 0
  · have hz : u = 0 := by omega
    subst hz
    rw [if_pos h, Int.mul_zero]
    exact ⟨fun z => ⟨z, hq⟩, fun z => z.1⟩
  · rw [if_neg h]
    have hd : x ≤ q / u ↔ x * u ≤ q := Int.le_ediv_iff_mul_le (by omega)
    rw [← hd]
    omega
theorem am2 {a q1 u1 q2 u2 : Int} (ha : a ≤ 1000) : cAM (cAM a q1 u1) q2 u2 = min a (cAM (cAM 1000 q1 u1) q2 u2) := by
  unfold cAM
  generalize q1 / u1 = x
  generalize q2 / u2 = y
  (repeat' split) <;> omega
section FILL
variable {K : Nat → Nat} {r : Nat → Int → Option Nat} {cp : Nat → Nat} {τ Y : sT} {w q : Nat}
theorem fit_iff {k : Int} (hs : 0 ≤ Y 41 (ad r 2 k)) (hn : 1 ≤ Y 31 q) (hk : 0 ≤ k) : cFit r Y w k q ≠ -1 ↔ cBE r Y w k q = true ∧ 1 ≤ (rn (cEm Y (w + 1) k) (Y 31 q) (Y 41 (ad r 2 k))).1 := by
  unfold cFit
  by_cases c : cBE r Y w k q = true
  · rw [if_pos c]
    unfold cLow
    by_cases z : low (cEm Y (w + 1) k) (Y 31 q) (Y 41 (ad r 2 k)) = -1
    · rw [if_pos z]
      have := rn_none hn hs z
      exact ⟨fun h => absurd rfl h, fun h => by omega⟩
    · rw [if_neg z]
      have h1 := rn_some hn hs z
      have h2 := low_rng (cEm Y (w + 1) k) hs hn
      exact ⟨fun _ => ⟨c, h1⟩, fun _ => by omega⟩
  · rw [if_neg c]
    exact ⟨fun h => absurd rfl h, fun h => absurd h.1 c⟩
/-- behind some more machines of the kind: a in the racks, ra in the rows, t in all -/
def Gd (r : Nat → Int → Option Nat) (τ : sT) (w q : Nat) (Y : sT) (a ra : Int → Int) (t : Int) : Prop :=
  (∀ f, cfix f = true → Y f = τ f) ∧ (∀ z : Int, 0 ≤ z → z < 8 → Y (w + 2) z = τ (w + 2) z + a z * τ 33 q ∧ Y (w + 5) z = τ (w + 5) z + a z * m_pw (τ 34 q) 0 (τ 32 q) ∧ Y (w + 6) z = τ (w + 6) z + a z * m_pw (τ 34 q) 1 (τ 32 q)) ∧
  (∀ row : Int, cSum r Y (w + 2) row = cSum r τ (w + 2) row + ra row * τ 33 q ∧ cSum r Y (w + 3) row = cSum r τ (w + 3) row + ra row * τ 32 q) ∧
  cAll Y (w + 5) = cAll τ (w + 5) + t * m_pw (τ 34 q) 0 (τ 32 q) ∧ cAll Y (w + 6) = cAll τ (w + 6) + t * m_pw (τ 34 q) 1 (τ 32 q) ∧
  ∀ z : Int, 0 ≤ z → z < τ 55 0 → (rn (cEm Y (w + 1) z) (τ 31 q) (τ 41 (ad r 2 z))).1 = (rn (cEm τ (w + 1) z) (τ 31 q) (τ 41 (ad r 2 z))).1 - a z
theorem Gd_0 : Gd r τ w q τ (fun _ => 0) (fun _ => 0) 0 := by
  refine ⟨fun _ _ => rfl, fun z _ _ => ?_, fun row => ?_, ?_, ?_, fun z _ _ => ?_⟩ <;> simp
theorem add1_mul (x y : Int) : (x + 1) * y = x * y + y := by rw [Int.add_mul, Int.one_mul]
theorem Gd.put (hw : w = 5 ∨ w = 12) (hV : CV K r cp τ) (hq : K q = 1) {a ra : Int → Int} {t : Int} (g : Gd r τ w q Y a ra t) {k : Int} (h0 : 0 ≤ k) (h1 : k < τ 55 0) (hf : cFit r Y w k q ≠ -1) :
    Gd r τ w q (cPut Y w q (cFit r Y w k q)) (iup a k (a k + 1)) (iup ra (τ 40 (ad r 2 k)) (ra (τ 40 (ad r 2 k)) + 1)) (t + 1) := by
  obtain ⟨g1, g2, g3, g4, g5, g6⟩ := g
  have hVY : CV K r cp Y := hV.of g1
  have h8 := hV.2.2.2.2.1.2.2.2.1
  have h55 := hV.2.2.2.2.1.1
  have hmb := hV.1 q hq
  have hrb := hV.2.1 _ (hV.2.2.2.2.1.2.2.2.2 k h0 h1).2
  have hc := (cFit_rng (w := w) hVY h0 (by rw [g1 55 rfl]; exact h1) hq).resolve_left hf
  have hfi := (fit_iff (by rw [g1 41 rfl]; omega) (by rw [g1 31 rfl]; omega) h0).mp hf
  have hlow : low (cEm Y (w + 1) k) (τ 31 q) (τ 41 (ad r 2 k)) ≠ -1 := fun z => by
    have := rn_none (e := cEm Y (w + 1) k) (n := τ 31 q) (S := τ 41 (ad r 2 k)) (by omega) (by omega) z
    rw [g1 31 rfl, g1 41 rfl] at hfi
    omega
  have hcv : cFit r Y w k q = k * 20 + (low (cEm Y (w + 1) k) (τ 31 q) (τ 41 (ad r 2 k)) - τ 31 q + 1) := by
    unfold cFit cLow
    rw [if_pos hfi.1, g1 31 rfl, g1 41 rfl, if_neg hlow]
  have hlr := (low_rng (cEm Y (w + 1) k) (n := τ 31 q) (S := τ 41 (ad r 2 k)) (by omega) (by omega)).resolve_left hlow
  generalize cFit r Y w k q = c at *
  rw [g1 31 rfl, g1 41 rfl] at hc
  have hdiv : c / 20 = k := by omega
  have z1 : ∀ f, cfix f = true → cPut Y w q c f = τ f := fun f hf => by rw [cPut_fix hw hf, g1 f hf]
  have a40 : ∀ z, cPut Y w q c 40 z = Y 40 z := fun z => by rw [cPut_fix hw rfl]
  have fsum : ∀ (i : Nat) (v : Int), cPut Y w q c (w + i) = iup (Y (w + i)) k (Y (w + i) k + v) → ∀ row, cSum r (cPut Y w q c) (w + i) row = cSum r Y (w + i) row + (if row = τ 40 (ad r 2 k) then v else 0) := by
    intro i v e row
    unfold cSum
    rw [z1 55 rfl, g1 55 rfl, sm_cong (g := fun z => cSR r Y (w + i) row z + (if z = k then (if row = τ 40 (ad r 2 k) then v else 0) else 0)) h55 (fun z p s => ?_), sm_add _ _ h55, sm_one _ _ h55, if_pos ⟨h0, h1⟩]
    unfold cSR
    rw [e, z1 40 rfl, g1 40 rfl, iup_if]
    by_cases x : z = k
    · subst x
      rw [if_pos rfl, if_pos rfl]
      by_cases y : τ 40 (ad r 2 z) = row
      · rw [if_pos y, if_pos y, if_pos y.symm]
      · rw [if_neg y, if_neg y, if_neg (Ne.symm y)]; rfl
    · rw [if_neg x, if_neg x]; omega
  have fall : ∀ (i : Nat) (v : Int), cPut Y w q c (w + i) = iup (Y (w + i)) k (Y (w + i) k + v) → cAll (cPut Y w q c) (w + i) = cAll Y (w + i) + v := by
    intro i v e
    unfold cAll
    rw [z1 55 rfl, g1 55 rfl, sm_cong (g := fun z => Y (w + i) z + (if z = k then v else 0)) h55 (fun z p s => ?_), sm_add _ _ h55, sm_one _ _ h55, if_pos ⟨h0, h1⟩]
    rw [e, iup_if]
    by_cases x : z = k
    · subst x; rw [if_pos rfl, if_pos rfl]
    · rw [if_neg x, if_neg x]; omega
  have e2 := cPut_2 (τ := Y) (m := q) (c := c) hw
  have e3 := cPut_3 (τ := Y) (m := q) (c := c) hw
  have e5 := cPut_5 (τ := Y) (m := q) (c := c) hw
  have e6 := cPut_6 (τ := Y) (m := q) (c := c) hw
  rw [hdiv, g1 33 rfl] at e2
  rw [hdiv, g1 32 rfl] at e3
  rw [hdiv, g1 32 rfl, g1 34 rfl] at e5 e6
  refine ⟨z1, fun z p s => ?_, fun row => ?_, ?_, ?_, fun z p s => ?_⟩
  · have k2 := g2 z p s
    rw [e2, e5, e6, iup_if, iup_if, iup_if, iup_if]
    by_cases x : z = k
    · subst x
      rw [if_pos rfl, if_pos rfl, if_pos rfl, if_pos rfl, add1_mul, add1_mul, add1_mul]; omega
    · rw [if_neg x, if_neg x, if_neg x, if_neg x]; exact k2
  · have k3 := g3 row
    rw [fsum 2 _ e2, fsum 3 _ e3, iup_if]
    by_cases x : row = τ 40 (ad r 2 k)
    · subst x
      rw [if_pos rfl, if_pos rfl, if_pos rfl, add1_mul, add1_mul]; omega
    · rw [if_neg x, if_neg x, if_neg x]; omega
  · rw [fall 5 _ e5, add1_mul]; omega
  · rw [fall 6 _ e6, add1_mul]; omega
  · have k6 := g6 z p s
    have hrz := hV.2.1 _ (hV.2.2.2.2.1.2.2.2.2 z p s).2
    rw [iup_if]
    by_cases x : z = k
    · subst x
      rw [if_pos rfl]
      have k7 := rn_clear (e := cEm Y (w + 1) z) (e' := cEm (cPut Y w q c) (w + 1) z) (n := τ 31 q) (S := τ 41 (ad r 2 z)) (by omega) (by omega) hlow (fun u v1 v2 => by
        unfold cEm
        rw [cPut_1, g1 31 rfl, g1 30 rfl]
        by_cases y : low (cEm Y (w + 1) z) (τ 31 q) (τ 41 (ad r 2 z)) - τ 31 q + 1 ≤ u ∧ u ≤ low (cEm Y (w + 1) z) (τ 31 q) (τ 41 (ad r 2 z))
        · have y' := y
          unfold cEm at y'
          rw [cFl_in (by omega), if_pos y', decide_eq_false (by omega)]
        · have y' := y
          unfold cEm at y'
          rw [cFl_out (by omega), if_neg y'])
      omega
    · rw [if_neg x, ← k6, rn_cong (e' := cEm Y (w + 1) z) (by omega) (fun u v1 v2 => by
        unfold cEm
        rw [cPut_1, g1 31 rfl, cFl_out (by omega)])]
def fRL (r : Nat → Int → Option Nat) (τ : sT) (w q : Nat) (row : Int) : Int := cAM (cAM 1000 (τ 21 row - cSum r τ (w + 2) row) (τ 33 q)) (τ 20 row - cSum r τ (w + 3) row) (τ 32 q)
def fFL (τ : sT) (w q : Nat) : Int := cAM (cAM 1000 (τ 22 0 - cAll τ (w + 5)) (m_pw (τ 34 q) 0 (τ 32 q))) (τ 22 1 - cAll τ (w + 6)) (m_pw (τ 34 q) 1 (τ 32 q))
theorem Gd.fit (hw : w = 5 ∨ w = 12) (hV : CV K r cp τ) (hML : cML r τ w) (hF : cAll τ (w + 5) ≤ τ 22 0 ∧ cAll τ (w + 6) ≤ τ 22 1) (hq : K q = 1) {a ra : Int → Int} {t : Int} (g : Gd r τ w q Y a ra t) {k : Int} (h0 : 0 ≤ k) (h1 : k < τ 55 0) (ht : t + 1 ≤ 1000) (hra : ra (τ 40 (ad r 2 k)) + 1 ≤ 1000) :
    cFit r Y w k q ≠ -1 ↔ a k + 1 ≤ cCR r τ w k q ∧ ra (τ 40 (ad r 2 k)) + 1 ≤ fRL r τ w q (τ 40 (ad r 2 k)) ∧ t + 1 ≤ fFL τ w q := by
  obtain ⟨g1, g2, g3, g4, g5, g6⟩ := g
  have h8 := hV.2.2.2.2.1.2.2.2.1
  have hmb := hV.1 q hq
  have hrb := hV.2.1 _ (hV.2.2.2.2.1.2.2.2.2 k h0 h1).2
  have hl := hML.1 k h0 h1
  have hl2 := hML.2 (τ 40 (ad r 2 k)) hrb.1.1 (by omega)
  have w0 := m_pw_2000 (c := τ 34 q) (f := 0) hmb.2.2.1
  have w1 := m_pw_2000 (c := τ 34 q) (f := 1) hmb.2.2.1
  have k2 := g2 k h0 (by omega)
  have k3 := g3 (τ 40 (ad r 2 k))
  have k6 := g6 k h0 h1
  rw [fit_iff (by rw [g1 41 rfl]; omega) (by rw [g1 31 rfl]; omega) h0, g1 31 rfl, g1 41 rfl, k6]
  unfold cBE cB0 cBM cCR cC1 fRL fFL
  simp only [Bool.and_eq_true, decide_eq_true_eq]
  rw [g1 33 rfl, g1 42 rfl, g1 40 rfl, g1 21 rfl, g1 32 rfl, g1 20 rfl, g1 34 rfl, g1 43 rfl, g1 22 rfl, k2.1, k2.2.1, k2.2.2, k3.1, k3.2, g4, g5]
  rw [am_le w1.1 (by omega), am_le w0.1 (by omega), am_le hmb.2.2.2.1.1 (by omega), am_le hmb.2.2.1.1 (by omega), am_le hmb.2.2.2.1.1 (by omega), am_le w1.1 (by omega), am_le w0.1 (by omega)]
  rw [add1_mul, add1_mul, add1_mul, add1_mul, add1_mul, add1_mul, add1_mul]
  constructor
  · rintro ⟨⟨⟨⟨⟨a1, a2⟩, a3⟩, a4, a5⟩, a6, a7⟩, a8⟩
    refine ⟨⟨⟨⟨?_, ?_⟩, ?_⟩, ?_⟩, ⟨⟨?_, ?_⟩, ?_⟩, ⟨?_, ?_⟩, ?_⟩ <;> omega
  · rintro ⟨⟨⟨⟨a1, a2⟩, a3⟩, a4⟩, ⟨⟨a5, a6⟩, a7⟩, ⟨a8, a9⟩, a10⟩
    refine ⟨⟨⟨⟨⟨?_, ?_⟩, ?_⟩, ?_, ?_⟩, ?_, ?_⟩, ?_⟩ <;> omega
theorem iup_iup {f : Int → Int} {k u v : Int} : iup (iup f k u) k v = iup f k v := by
  funext j
  by_cases z : j = k
  · rw [z, iup_s, iup_s]
  · rw [iup_n z, iup_n z, iup_n z]
theorem iup_id {f : Int → Int} {k v : Int} (h : v = f k) : iup f k v = f := by
  funext j
  by_cases z : j = k
  · rw [z, iup_s, h]
  · rw [iup_n z]
theorem fill_rack (hw : w = 5 ∨ w = 12) (hV : CV K r cp τ) (hML : cML r τ w) (hF : cAll τ (w + 5) ≤ τ 22 0 ∧ cAll τ (w + 6) ≤ τ 22 1) (hq : K q = 1) {a ra : Int → Int} {t : Int} (g : Gd r τ w q Y a ra t) {k : Int} (h0 : 0 ≤ k) (h1 : k < τ 55 0) (ht : t ≤ 200) (hra : ra (τ 40 (ad r 2 k)) ≤ 200) (ha : a k = 0) {j0 : Int} (hj : j0 = min (cCR r τ w k q) (min (fRL r τ w q (τ 40 (ad r 2 k)) - ra (τ 40 (ad r 2 k))) (fFL τ w q - t))) (hj0 : 0 ≤ j0) :
    cUc r Y w k q = j0.toNat ∧ Gd r τ w q (cUp r Y w k q j0.toNat) (iup a k j0) (iup ra (τ 40 (ad r 2 k)) (ra (τ 40 (ad r 2 k)) + j0)) (t + j0) := by
  have hcr := cCR_rng (w := w) hV hML hq h0 h1
  have key : ∀ j : Nat, (j : Int) ≤ j0 → Gd r τ w q (cUp r Y w k q j) (iup a k j) (iup ra (τ 40 (ad r 2 k)) (ra (τ 40 (ad r 2 k)) + j)) (t + j) ∧ ∀ i, i < j → cFit r (cUp r Y w k q i) w k q ≠ -1 := by
    intro j
    induction j with
    | zero =>
      intro _
      rw [iup_id (f := a) (v := ((0 : Nat) : Int)) (by rw [ha]; rfl), iup_id (f := ra) (by show _ + (0 : Int) = _; omega), show t + ((0 : Nat) : Int) = t by omega]
      exact ⟨g, fun i hi => by omega⟩
    | succ j ih =>
      intro hle
      obtain ⟨g', hf'⟩ := ih (by omega)
      have hf : cFit r (cUp r Y w k q j) w k q ≠ -1 := (g'.fit hw hV hML hF hq h0 h1 (by omega) (by rw [iup_s]; omega)).mpr ⟨by rw [iup_s]; omega, by rw [iup_s]; omega, by omega⟩
      have h9 := g'.put hw hV hq h0 h1 hf
      rw [iup_s, iup_s, iup_iup, iup_iup] at h9
      refine ⟨?_, fun i hi => ?_⟩
      · rw [show ((j + 1 : Nat) : Int) = (j : Int) + 1 by omega, show ra (τ 40 (ad r 2 k)) + ((j : Int) + 1) = ra (τ 40 (ad r 2 k)) + (j : Int) + 1 by omega, show t + ((j : Int) + 1) = t + (j : Int) + 1 by omega]
        exact h9
      · rcases Nat.lt_or_ge i j with z | z
        · exact hf' i z
        · rw [show i = j by omega]; exact hf
  obtain ⟨g', hf'⟩ := key j0.toNat (by omega)
  rw [show ((j0.toNat : Nat) : Int) = j0 by omega] at g'
  refine ⟨cUc_eq (by omega) hf' (fun _ => ?_), g'⟩
  have hn := g'.fit hw hV hML hF hq h0 h1 (by omega) (by rw [iup_s]; omega)
  rw [iup_s, iup_s] at hn
  by_cases z : cFit r (cUp r Y w k q j0.toNat) w k q = -1
  · exact z
  · have := hn.mp z
    omega
theorem fill_all (hw : w = 5 ∨ w = 12) (hV : CV K r cp τ) (hW : Wb τ w) (hML : cML r τ w) (hF : cAll τ (w + 5) ≤ τ 22 0 ∧ cAll τ (w + 6) ≤ τ 22 1) (hq : K q = 1) : ∀ m : Nat, (m : Int) ≤ τ 55 0 → ∃ a ra : Int → Int, Gd r τ w q (rfS r τ w q m) a ra (rfC r τ w q m) ∧ (∀ z : Int, (m : Int) ≤ z → a z = 0) ∧ (∀ row : Int, 0 ≤ row → row < 4 → 0 ≤ ra row ∧ ra row ≤ fRL r τ w q row ∧ ra row ≤ rfC r τ w q m) ∧ 0 ≤ rfC r τ w q m ∧ rfC r τ w q m ≤ 20 * m ∧ rfC r τ w q m ≤ fFL τ w q ∧
    rfC r τ w q m = min (sm (fun row => min (sm (cCt r τ w row q) m) (fRL r τ w q row)) 4) (fFL τ w q) ∧ (rfC r τ w q m < fFL τ w q → ∀ row : Int, 0 ≤ row → row < 4 → ra row = min (sm (cCt r τ w row q) m) (fRL r τ w q row)) := by
  have h8 := hV.2.2.2.2.1.2.2.2.1
  have hmb := hV.1 q hq
  have w0 := m_pw_2000 (c := τ 34 q) (f := 0) hmb.2.2.1
  have w1 := m_pw_2000 (c := τ 34 q) (f := 1) hmb.2.2.1
  have rl0 : ∀ row : Int, 0 ≤ row → row < 4 → 0 ≤ fRL r τ w q row := fun row x y => by
    have := hML.2 row x y
    unfold fRL
    rw [am_le hmb.2.2.1.1 (by omega), am_le hmb.2.2.2.1.1 (by omega), Int.zero_mul, Int.zero_mul]
    omega
  have fl0 : 0 ≤ fFL τ w q := by
    unfold fFL
    rw [am_le w1.1 (by omega), am_le w0.1 (by omega), Int.zero_mul, Int.zero_mul]
    omega
  intro m
  induction m with
  | zero =>
    intro _
    have s4 : sm (fun row => min (sm (cCt r τ w row q) ((0 : Nat) : Int)) (fRL r τ w q row)) 4 = 0 := by
      rw [sm_cong (g := fun _ => 0) (by decide) (fun row x y => by
        have := rl0 row x y
        show min (0 : Int) _ = 0
        omega), sm_zero (by decide)]
    refine ⟨fun _ => 0, fun _ => 0, Gd_0, fun _ _ => rfl, fun row x y => ⟨Int.le_refl _, rl0 row x y, Int.le_refl _⟩, Int.le_refl _, by show (0 : Int) ≤ 20 * ((0 : Nat) : Int); omega, fl0, ?_, fun _ row x y => ?_⟩
    · rw [s4]
      show (0 : Int) = _
      omega
    · have := rl0 row x y
      show (0 : Int) = min (0 : Int) _
      omega
  | succ m ih =>
    intro hle
    obtain ⟨a, ra, g, ha, hra, ht0, ht1, ht2, ht3, ht4⟩ := ih (by omega)
    have hm0 : (0 : Int) ≤ (m : Int) := by omega
    have hm1 : (m : Int) < τ 55 0 := by omega
    have hrb := hV.2.1 _ (hV.2.2.2.2.1.2.2.2.2 (m : Int) hm0 hm1).2
    have hcr := cCR_rng (w := w) hV hML hq hm0 hm1
    obtain ⟨ρ, hρ⟩ : ∃ ρ, τ 40 (ad r 2 (m : Int)) = ρ := ⟨_, rfl⟩
    have hrr := hra ρ (by omega) (by omega)
    obtain ⟨j0, hj⟩ : ∃ j0, j0 = min (cCR r τ w m q) (min (fRL r τ w q ρ - ra ρ) (fFL τ w q - rfC r τ w q m)) := ⟨_, rfl⟩
    have hj0 : 0 ≤ j0 := by omega
    obtain ⟨u1, u2⟩ := fill_rack hw hV hML hF hq g hm0 hm1 (by omega) (by rw [hρ]; omega) (ha _ (Int.le_refl _)) (by rw [hρ]; exact hj) hj0
    rw [hρ] at u2
    have eS : rfS r τ w q (m + 1) = cUp r (rfS r τ w q m) w m q j0.toNat := by rw [← u1]; rfl
    have eC : rfC r τ w q (m + 1) = rfC r τ w q m + j0 := by
      show rfC r τ w q m + ((cUc r (rfS r τ w q m) w m q : Nat) : Int) = _
      rw [u1]; omega
    have ct : ∀ row, sm (cCt r τ w row q) ((m + 1 : Nat) : Int) = sm (cCt r τ w row q) m + (if ρ = row then cCR r τ w m q else 0) := fun row => by
      rw [show ((m + 1 : Nat) : Int) = (m : Int) + 1 by omega, sm_s _ hm0]
      congr 1
      unfold cCt
      rw [hρ]
    have s4 : sm (fun row => min (sm (cCt r τ w row q) ((m + 1 : Nat) : Int)) (fRL r τ w q row)) 4 = sm (fun row => min (sm (cCt r τ w row q) m) (fRL r τ w q row)) 4 + (min (sm (cCt r τ w ρ q) m + cCR r τ w m q) (fRL r τ w q ρ) - min (sm (cCt r τ w ρ q) m) (fRL r τ w q ρ)) := by
      rw [sm_upd (f := fun row => min (sm (cCt r τ w row q) ((m + 1 : Nat) : Int)) (fRL r τ w q row)) (g := fun row => min (sm (cCt r τ w row q) m) (fRL r τ w q row)) (k := ρ) (by omega) (by omega) (fun row hn => by
        show min (sm (cCt r τ w row q) ((m + 1 : Nat) : Int)) (fRL r τ w q row) = min (sm (cCt r τ w row q) m) (fRL r τ w q row)
        rw [ct row, if_neg (Ne.symm hn), Int.add_zero])]
      show _ + (min (sm (cCt r τ w ρ q) ((m + 1 : Nat) : Int)) (fRL r τ w q ρ) - _) = _
      rw [ct ρ, if_pos rfl]
    have c0 := (cCt_rng (row := ρ) hV hW hML hq (k := (m : Int)) hm0 (by omega)).1
    have r0 := rl0 ρ (by omega) (by omega)
    rw [eS, eC]
    refine ⟨_, _, u2, fun z hz => ?_, fun row x y => ?_, by omega, by omega, by omega, ?_, fun hlt row x y => ?_⟩
    · rw [iup_n (by omega)]; exact ha z (by omega)
    · have := hra row x y
      rw [iup_if]
      by_cases z : row = ρ
      · rw [if_pos z, z]; omega
      · rw [if_neg z]; omega
    · rw [s4]
      by_cases z : rfC r τ w q m < fFL τ w q
      · have h9 := ht4 z ρ (by omega) (by omega)
        omega
      · omega
    · have h9 := ht4 (by omega) row x y
      rw [iup_if, ct row]
      by_cases z : row = ρ
      · subst z
        rw [if_pos rfl, if_pos rfl]
        omega
      · rw [if_neg z, if_neg (Ne.symm z), Int.add_zero]; exact h9
theorem fill_cnt (hw : w = 5 ∨ w = 12) (hV : CV K r cp τ) (hW : Wb τ w) (hML : cML r τ w) (hF : cAll τ (w + 5) ≤ τ 22 0 ∧ cAll τ (w + 6) ≤ τ 22 1) (hq : K q = 1) {m : Nat} (hm : (m : Int) = τ 55 0) : rfC r τ w q m = cCA r τ w q := by
  obtain ⟨a, ra, g, ha, hra, ht0, ht1, ht2, ht3, ht4⟩ := fill_all hw hV hW hML hF hq m (by omega)
  have c160 : ∀ row, sm (cCt r τ w row q) (τ 55 0) ≤ 160 := fun row => (cCt_rng (row := row) hV hW hML hq (k := τ 55 0) (by omega) (Int.le_refl _)).2
  have s640 := sm_le (f := fun row => cCW r τ w row q) (a := 0) (b := 160) (n := 4) (by decide) (fun row x y => cCW_rng hV hW hML hq x y)
  rw [ht3, hm]
  unfold cCA
  rw [am2 (by omega)]
  congr 1
  refine sm_cong (by decide) (fun row x y => ?_)
  unfold cCW
  rw [am2 (by have := c160 row; omega)]
  rfl
end FILL
