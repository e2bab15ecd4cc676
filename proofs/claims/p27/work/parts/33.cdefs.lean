/-! ===== the class: bounds, lists, what its methods answer ===== -/
abbrev Mb (τ : sT) (q : Nat) : Prop := (0 ≤ τ 30 q ∧ τ 30 q ≤ 1000000) ∧ (1 ≤ τ 31 q ∧ τ 31 q ≤ 6) ∧ (0 ≤ τ 32 q ∧ τ 32 q ≤ 2000) ∧ (0 ≤ τ 33 q ∧ τ 33 q ≤ 1000) ∧ (0 ≤ τ 34 q ∧ τ 34 q ≤ 2) ∧ (-1 ≤ τ 35 q ∧ τ 35 q ≤ 159) ∧ (-1 ≤ τ 36 q ∧ τ 36 q ≤ 159)
abbrev Rb (τ : sT) (q : Nat) : Prop := (0 ≤ τ 40 q ∧ τ 40 q ≤ 3) ∧ (1 ≤ τ 41 q ∧ τ 41 q ≤ 20) ∧ (0 ≤ τ 42 q ∧ τ 42 q ≤ 10000) ∧ (0 ≤ τ 43 q ∧ τ 43 q ≤ 10000)
abbrev Ls0 (K : Nat → Nat) (r : Nat → Int → Option Nat) (cp : Nat → Nat) (τ : sT) : Prop := 0 ≤ τ 53 0 ∧ τ 53 0 ≤ cp 0 ∧ cp 0 ≤ 150 ∧ τ 53 0 ≤ 60 ∧ ∀ k : Int, 0 ≤ k → k < τ 53 0 → r 0 k = some (ad r 0 k) ∧ K (ad r 0 k) = 1
abbrev Ls1 (K : Nat → Nat) (r : Nat → Int → Option Nat) (cp : Nat → Nat) (τ : sT) : Prop := 0 ≤ τ 54 0 ∧ τ 54 0 ≤ cp 1 ∧ cp 1 ≤ 150 ∧ τ 54 0 ≤ 60 ∧ ∀ k : Int, 0 ≤ k → k < τ 54 0 → r 1 k = some (ad r 1 k) ∧ K (ad r 1 k) = 1
abbrev Ls2 (K : Nat → Nat) (r : Nat → Int → Option Nat) (cp : Nat → Nat) (τ : sT) : Prop := 0 ≤ τ 55 0 ∧ τ 55 0 ≤ cp 2 ∧ cp 2 ≤ 150 ∧ τ 55 0 ≤ 8 ∧ ∀ k : Int, 0 ≤ k → k < τ 55 0 → r 2 k = some (ad r 2 k) ∧ K (ad r 2 k) = 2
abbrev Sb (τ : sT) : Prop := (∀ z : Int, 0 ≤ z → z < 4 → 0 ≤ τ 20 z ∧ τ 20 z ≤ 10000) ∧ (∀ z : Int, 0 ≤ z → z < 4 → 0 ≤ τ 21 z ∧ τ 21 z ≤ 10000) ∧ (∀ z : Int, 0 ≤ z → z < 2 → 0 ≤ τ 22 z ∧ τ 22 z ≤ 20000) ∧ (∀ z : Int, 0 ≤ z → z < 2 → 0 ≤ τ 2 z ∧ τ 2 z ≤ 1) ∧ (0 ≤ τ 0 0 ∧ τ 0 0 ≤ 1000000)
abbrev CV (K : Nat → Nat) (r : Nat → Int → Option Nat) (cp : Nat → Nat) (τ : sT) : Prop := (∀ q, K q = 1 → Mb τ q) ∧ (∀ q, K q = 2 → Rb τ q) ∧ Ls0 K r cp τ ∧ Ls1 K r cp τ ∧ Ls2 K r cp τ ∧ Sb τ
abbrev Wb (τ : sT) (w : Nat) : Prop := (∀ z : Int, 0 ≤ z → z < 160 → -1 ≤ τ (w + 1) z ∧ τ (w + 1) z ≤ 1000000) ∧ (∀ z : Int, 0 ≤ z → z < 8 → -1000000 ≤ τ (w + 2) z ∧ τ (w + 2) z ≤ 1000000) ∧ (∀ z : Int, 0 ≤ z → z < 8 → -1000000 ≤ τ (w + 3) z ∧ τ (w + 3) z ≤ 1000000) ∧ (∀ z : Int, 0 ≤ z → z < 8 → -1000000 ≤ τ (w + 5) z ∧ τ (w + 5) z ≤ 1000000) ∧ (∀ z : Int, 0 ≤ z → z < 8 → -1000000 ≤ τ (w + 6) z ∧ τ (w + 6) z ≤ 1000000)
section CD
variable {l : Launch} {g : gT} {P K : Nat → Nat} {r : Nat → Int → Option Nat} {cp : Nat → Nat} {b b' : Nat} {τ : sT}
theorem ch_ed0 (hk : cok P K cp) (hc : cp 0 ≠ 0) : cheap g P K r cp b b' τ (edv g P cp 0) = some (qar (g.2.1 2) (cp 0) (r 0)) := by unfold edv; rw [if_neg hc]; exact ch_23 hk hc
theorem ch_ed1 (hk : cok P K cp) (hc : cp 1 ≠ 0) : cheap g P K r cp b b' τ (edv g P cp 1) = some (qar (g.2.1 2) (cp 1) (r 1)) := by unfold edv; rw [if_neg hc]; exact ch_24 hk hc
theorem ch_ed2 (hk : cok P K cp) (hc : cp 2 ≠ 0) : cheap g P K r cp b b' τ (edv g P cp 2) = some (qar (g.2.1 2) (cp 2) (r 2)) := by unfold edv; rw [if_neg hc]; exact ch_25 hk hc
theorem kl_get0 (l : Launch) (g : gT) (hk : cok P K cp) (hL : Ls0 K r cp τ) {k : Int} (h0 : 0 ≤ k) (h1 : k < τ 53 0) : CM l g yJx4a65c_get_915e3 cJx4a65c_get_915e3 2 (some (.object "java/lang/Object")) { frames := 3, cells := 0, slots := 0, locals := 63 } [.ref (P 3), .int (iI k)] (cheap g P K r cp b b' τ) (pV (some (.ref (ad r 0 k))) (cheap g P K r cp b b' τ)) noX :=
  k_Jx4a65c_get_915e3 l g (n := τ 53 0) (cap := cp 0) (r := r 0) (ch_3 hk) (ch_ed0 hk (by omega)) ⟨h0, h1⟩ hL.2.1 (by omega) (hL.2.2.2.2 k h0 h1).1
theorem kl_get1 (l : Launch) (g : gT) (hk : cok P K cp) (hL : Ls1 K r cp τ) {k : Int} (h0 : 0 ≤ k) (h1 : k < τ 54 0) : CM l g yJx4a65c_get_915e3 cJx4a65c_get_915e3 2 (some (.object "java/lang/Object")) { frames := 3, cells := 0, slots := 0, locals := 63 } [.ref (P 4), .int (iI k)] (cheap g P K r cp b b' τ) (pV (some (.ref (ad r 1 k))) (cheap g P K r cp b b' τ)) noX :=
  k_Jx4a65c_get_915e3 l g (n := τ 54 0) (cap := cp 1) (r := r 1) (ch_4 hk) (ch_ed1 hk (by omega)) ⟨h0, h1⟩ hL.2.1 (by omega) (hL.2.2.2.2 k h0 h1).1
theorem kl_get2 (l : Launch) (g : gT) (hk : cok P K cp) (hL : Ls2 K r cp τ) {k : Int} (h0 : 0 ≤ k) (h1 : k < τ 55 0) : CM l g yJx4a65c_get_915e3 cJx4a65c_get_915e3 2 (some (.object "java/lang/Object")) { frames := 3, cells := 0, slots := 0, locals := 63 } [.ref (P 19), .int (iI k)] (cheap g P K r cp b b' τ) (pV (some (.ref (ad r 2 k))) (cheap g P K r cp b b' τ)) noX :=
  k_Jx4a65c_get_915e3 l g (n := τ 55 0) (cap := cp 2) (r := r 2) (ch_19 hk) (ch_ed2 hk (by omega)) ⟨h0, h1⟩ hL.2.1 (by omega) (hL.2.2.2.2 k h0 h1).1
end CD
def cSR (r : Nat → Int → Option Nat) (τ : sT) (f : Nat) (row k : Int) : Int := if τ 40 (ad r 2 k) = row then τ f k else 0
def cSum (r : Nat → Int → Option Nat) (τ : sT) (f : Nat) (row : Int) : Int := sm (cSR r τ f row) (τ 55 0)
def cAll (τ : sT) (f : Nat) : Int := sm (τ f) (τ 55 0)
def cBM (r : Nat → Int → Option Nat) (τ : sT) (f : Nat) (k fd more : Int) : Bool := decide (τ f k + more ≤ τ 43 (ad r 2 k)) && decide (cAll τ f + more ≤ τ 22 fd)
def cB0 (r : Nat → Int → Option Nat) (τ : sT) (w : Nat) (k : Int) (m : Nat) : Bool := decide (τ (w + 2) k + τ 33 m ≤ τ 42 (ad r 2 k)) && decide (cSum r τ (w + 2) (τ 40 (ad r 2 k)) + τ 33 m ≤ τ 21 (τ 40 (ad r 2 k))) && decide (cSum r τ (w + 3) (τ 40 (ad r 2 k)) + τ 32 m ≤ τ 20 (τ 40 (ad r 2 k)))
def cBE (r : Nat → Int → Option Nat) (τ : sT) (w : Nat) (k : Int) (m : Nat) : Bool := cB0 r τ w k m && cBM r τ (w + 5) k 0 (m_pw (τ 34 m) 0 (τ 32 m)) && cBM r τ (w + 6) k 1 (m_pw (τ 34 m) 1 (τ 32 m))
def cEm (τ : sT) (f : Nat) (k s : Int) : Bool := decide (τ f (k * 20 + s) = -1)
def frN (e : Int → Bool) : Nat → Int
  | 0 => 0
  | n + 1 => if e n = true then frN e n + 1 else 0
def fr (e : Int → Bool) (s : Int) : Int := frN e s.toNat
theorem fr_s (e : Int → Bool) {s : Int} (h : 0 ≤ s) : fr e (s + 1) = if e s = true then fr e s + 1 else 0 := by
  unfold fr
  rw [show (s + 1).toNat = s.toNat + 1 by omega]
  show (if e (s.toNat : Int) = true then _ else _) = _
  rw [show ((s.toNat : Nat) : Int) = s by omega]
theorem fr_rng (e : Int → Bool) {s : Int} (h : 0 ≤ s) : 0 ≤ fr e s ∧ fr e s ≤ s := by
  refine sm_ind (p := fun s => 0 ≤ fr e s ∧ fr e s ≤ s) s ⟨Int.le_refl (0 : Int), Int.le_refl (0 : Int)⟩ (fun k h0 _ hk => ?_) h
  rw [fr_s e h0]
  split <;> omega
def low (e : Int → Bool) (n S : Int) : Int := ff (fun s => decide (fr e (s + 1) = n)) S
def cLow (r : Nat → Int → Option Nat) (τ : sT) (f : Nat) (k n : Int) : Int := if low (cEm τ f k) n (τ 41 (ad r 2 k)) = -1 then -1 else k * 20 + (low (cEm τ f k) n (τ 41 (ad r 2 k)) - n + 1)
def cFit (r : Nat → Int → Option Nat) (τ : sT) (w : Nat) (k : Int) (m : Nat) : Int := if cBE r τ w k m = true then cLow r τ (w + 1) k (τ 31 m) else -1
def cFR (r : Nat → Int → Option Nat) (τ : sT) (w : Nat) (m : Nat) : Int := ff (fun k => decide (cFit r τ w k m ≠ -1)) (τ 55 0)
def cFF (r : Nat → Int → Option Nat) (τ : sT) (w : Nat) (m : Nat) : Int := if cFR r τ w m = -1 then -1 else cFit r τ w (cFR r τ w m) m
def gpN (e : Int → Bool) : Nat → Int
  | 0 => 0
  | n + 1 => max (gpN e n) (frN e (n + 1))
def gp (e : Int → Bool) (s : Int) : Int := gpN e s.toNat
theorem gp_s (e : Int → Bool) {s : Int} (h : 0 ≤ s) : gp e (s + 1) = max (gp e s) (fr e (s + 1)) := by
  unfold gp fr
  rw [show (s + 1).toNat = s.toNat + 1 by omega]
  rfl
theorem gp_rng (e : Int → Bool) {s : Int} (h : 0 ≤ s) : 0 ≤ gp e s ∧ gp e s ≤ s := by
  refine sm_ind (p := fun s => 0 ≤ gp e s ∧ gp e s ≤ s) s ⟨Int.le_refl (0 : Int), Int.le_refl (0 : Int)⟩ (fun k h0 _ hk => ?_) h
  rw [gp_s e h0]
  have := fr_rng e (s := k + 1) (by omega)
  omega
def rnN (e : Int → Bool) (n : Int) : Nat → Int × Int
  | 0 => (0, 0)
  | s + 1 => if (if e s = true then (rnN e n s).2 + 1 else 0) = n then ((rnN e n s).1 + 1, 0) else ((rnN e n s).1, (if e s = true then (rnN e n s).2 + 1 else 0))
def rn (e : Int → Bool) (n s : Int) : Int × Int := rnN e n s.toNat
theorem rn_s (e : Int → Bool) (n : Int) {s : Int} (h : 0 ≤ s) : rn e n (s + 1) = (if (if e s = true then (rn e n s).2 + 1 else 0) = n then ((rn e n s).1 + 1, 0) else ((rn e n s).1, (if e s = true then (rn e n s).2 + 1 else 0))) := by
  unfold rn
  rw [show (s + 1).toNat = s.toNat + 1 by omega]
  show (if (if e (s.toNat : Int) = true then _ else _) = n then _ else ((_ : Int), (if e (s.toNat : Int) = true then _ else _))) = _
  rw [show ((s.toNat : Nat) : Int) = s by omega]
theorem rn_rng (e : Int → Bool) (n : Int) {s : Int} (hs : 0 ≤ s) : 0 ≤ (rn e n s).1 ∧ (rn e n s).1 ≤ s ∧ 0 ≤ (rn e n s).2 ∧ (rn e n s).2 ≤ s := by
  refine sm_ind (p := fun s => 0 ≤ (rn e n s).1 ∧ (rn e n s).1 ≤ s ∧ 0 ≤ (rn e n s).2 ∧ (rn e n s).2 ≤ s) s ⟨Int.le_refl (0 : Int), Int.le_refl (0 : Int), Int.le_refl (0 : Int), Int.le_refl (0 : Int)⟩ (fun k h0 _ hk => ?_) hs
  rw [rn_s e n h0]
  by_cases q1 : e k = true
  · simp only [q1, if_true]
    split <;> refine ⟨?_, ?_, ?_, ?_⟩ <;> simp only [] <;> omega
  · simp only [if_neg q1]
    split <;> refine ⟨?_, ?_, ?_, ?_⟩ <;> simp only [] <;> omega
def cAM (a q u : Int) : Int := if u ≤ 0 then a else min a (q / u)
theorem cAM_rng {a q u : Int} (ha : 0 ≤ a) (hq : 0 ≤ q) : 0 ≤ cAM a q u ∧ cAM a q u ≤ a := by
  unfold cAM
  split
  · omega
  · have : 0 ≤ q / u := Int.ediv_nonneg hq (by omega)
    omega
def cC1 (r : Nat → Int → Option Nat) (τ : sT) (w : Nat) (k : Int) (m : Nat) : Int := cAM (rn (cEm τ (w + 1) k) (τ 31 m) (τ 41 (ad r 2 k))).1 (τ 42 (ad r 2 k) - τ (w + 2) k) (τ 33 m)
def cCR (r : Nat → Int → Option Nat) (τ : sT) (w : Nat) (k : Int) (m : Nat) : Int := cAM (cAM (cC1 r τ w k m) (τ 43 (ad r 2 k) - τ (w + 5) k) (m_pw (τ 34 m) 0 (τ 32 m))) (τ 43 (ad r 2 k) - τ (w + 6) k) (m_pw (τ 34 m) 1 (τ 32 m))
def cCt (r : Nat → Int → Option Nat) (τ : sT) (w : Nat) (row : Int) (m : Nat) (k : Int) : Int := if τ 40 (ad r 2 k) = row then cCR r τ w k m else 0
def cCW (r : Nat → Int → Option Nat) (τ : sT) (w : Nat) (row : Int) (m : Nat) : Int := cAM (cAM (sm (cCt r τ w row m) (τ 55 0)) (τ 21 row - cSum r τ (w + 2) row) (τ 33 m)) (τ 20 row - cSum r τ (w + 3) row) (τ 32 m)
def cPA (τ : sT) (m o : Nat) : Bool := if τ 31 m = τ 31 o then decide (τ 32 o < τ 32 m) else decide (τ 31 o < τ 31 m)
def cFl (F : Int → Int) (lo n v : Int) : Int → Int := fun z => if lo ≤ z ∧ z < lo + n then v else F z
def cAdd (τ : sT) (w : Nat) (k : Int) (m : Nat) (sg : Int) : sT := su (su (su (su τ (w + 2) k (τ (w + 2) k + sg * τ 33 m)) (w + 3) k (τ (w + 3) k + sg * τ 32 m)) (w + 5) k (τ (w + 5) k + sg * m_pw (τ 34 m) 0 (τ 32 m))) (w + 6) k (τ (w + 6) k + sg * m_pw (τ 34 m) 1 (τ 32 m))
def cPut (τ : sT) (w : Nat) (m : Nat) (c : Int) : sT := cAdd (sf τ (w + 1) (cFl (τ (w + 1)) c (τ 31 m) (τ 30 m))) w (c / 20) m 1
def cClr (τ : sT) (w : Nat) (m : Nat) : sT := cAdd (sf τ (w + 1) (cFl (τ (w + 1)) (τ 35 m) (τ 31 m) (-1))) w (τ 35 m / 20) m (-1)
def cCC (τ : sT) (w : Nat) (m : Nat) (c : Int) : sT := su (su (su τ (w + 5) (τ 35 m / 20) (τ (w + 5) (τ 35 m / 20) + (m_pw c 0 (τ 32 m) - m_pw (τ 34 m) 0 (τ 32 m)))) (w + 6) (τ 35 m / 20) (τ (w + 6) (τ 35 m / 20) + (m_pw c 1 (τ 32 m) - m_pw (τ 34 m) 1 (τ 32 m)))) 34 m c
def cBC (r : Nat → Int → Option Nat) (τ : sT) (w : Nat) (m : Nat) (c : Int) : Bool := cBM r τ (w + 5) (τ 35 m / 20) 0 (m_pw c 0 (τ 32 m) - m_pw (τ 34 m) 0 (τ 32 m)) && cBM r τ (w + 6) (τ 35 m / 20) 1 (m_pw c 1 (τ 32 m) - m_pw (τ 34 m) 1 (τ 32 m))
def cFst (τ : sT) (f : Nat) (st : Int) : Int := if ff (fun j => decide (τ f (st + j) ≠ -1)) (160 - st) = -1 then -1 else τ f (st + ff (fun j => decide (τ f (st + j) ≠ -1)) (160 - st))
theorem cSR_rng {r : Nat → Int → Option Nat} {τ : sT} {f : Nat} {row n : Int} (h0 : 0 ≤ n) (h8 : n ≤ 8) (hf : ∀ z : Int, 0 ≤ z → z < 8 → -1000000 ≤ τ f z ∧ τ f z ≤ 1000000) : -8000000 ≤ sm (cSR r τ f row) n ∧ sm (cSR r τ f row) n ≤ 8000000 := by
  have := sm_le (f := cSR r τ f row) (a := -1000000) (b := 1000000) h0 (fun k q0 q1 => by have := hf k q0 (by omega); unfold cSR; split <;> omega)
  omega
theorem cAll_rng {τ : sT} {f : Nat} {n : Int} (h0 : 0 ≤ n) (h8 : n ≤ 8) (hf : ∀ z : Int, 0 ≤ z → z < 8 → -1000000 ≤ τ f z ∧ τ f z ≤ 1000000) : -8000000 ≤ sm (τ f) n ∧ sm (τ f) n ≤ 8000000 := by
  have := sm_le (f := τ f) (a := -1000000) (b := 1000000) h0 (fun k q0 q1 => by have := hf k q0 (by omega); omega)
  omega
theorem m_pw_2000 {c f p : Int} (hp : 0 ≤ p ∧ p ≤ 2000) : 0 ≤ m_pw c f p ∧ m_pw c f p ≤ 2000 := by unfold m_pw; split <;> omega
