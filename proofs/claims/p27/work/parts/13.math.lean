/-! ===== plain sums, first places, the reference's bounds ===== -/
def smN (f : Int → Int) : Nat → Int
  | 0 => 0
  | n + 1 => smN f n + f n
/-- the sum of f over 0 .. n-1 -/
def sm (f : Int → Int) (n : Int) : Int := smN f n.toNat
theorem sm_0 (f : Int → Int) : sm f 0 = 0 := rfl
theorem sm_s (f : Int → Int) {k : Int} (h : 0 ≤ k) : sm f (k + 1) = sm f k + f k := by
  unfold sm
  rw [show (k + 1).toNat = k.toNat + 1 by omega]
  show smN f k.toNat + f ((k.toNat : Nat) : Int) = _
  rw [show ((k.toNat : Nat) : Int) = k by omega]
theorem sm_ind {p : Int → Prop} (n : Int) (h0 : p 0) (hs : ∀ k, 0 ≤ k → k < n → p k → p (k + 1)) (hn : 0 ≤ n) : p n := by
  have key : ∀ m : Nat, (m : Int) ≤ n → p m := by
    intro m
    induction m with
    | zero => intro _; exact h0
    | succ m ih => intro h; have := hs m (by omega) (by omega) (ih (by omega)); exact_mod_cast this
  have := key n.toNat (by omega)
  rwa [show ((n.toNat : Nat) : Int) = n by omega] at this
theorem sm_le {f : Int → Int} {a b n : Int} (hn : 0 ≤ n) (h : ∀ k, 0 ≤ k → k < n → a ≤ f k ∧ f k ≤ b) : n * a ≤ sm f n ∧ sm f n ≤ n * b := by
  have key : ∀ m, m ≤ n → 0 ≤ m → (m * a ≤ sm f m ∧ sm f m ≤ m * b) := by
    intro m hm hm0
    refine sm_ind (p := fun m => m * a ≤ sm f m ∧ sm f m ≤ m * b) m ?_ ?_ hm0
    · rw [sm_0]; omega
    · intro k h1 h2 ih
      have := h k h1 (by omega)
      rw [sm_s f h1, Int.add_mul, Int.add_mul, Int.one_mul, Int.one_mul]
      omega
  exact key n (Int.le_refl n) hn
theorem sm_cong {f g : Int → Int} {n : Int} (hn : 0 ≤ n) (h : ∀ k, 0 ≤ k → k < n → f k = g k) : sm f n = sm g n := by
  refine sm_ind (p := fun m => m ≤ n → sm f m = sm g m) n ?_ ?_ hn (Int.le_refl n)
  · intro _; rfl
  · intro k h1 h2 ih _
    rw [sm_s f h1, sm_s g h1, ih (by omega), h k h1 h2]
def ffN (p : Int → Bool) : Nat → Int
  | 0 => -1
  | n + 1 => if ffN p n ≠ -1 then ffN p n else if p n = true then n else -1
/-- the first place below n with p, -1 without -/
def ff (p : Int → Bool) (n : Int) : Int := ffN p n.toNat
theorem ffN_none {p : Int → Bool} : ∀ {n : Nat}, (∀ j : Int, 0 ≤ j → j < n → p j = false) → ffN p n = -1
  | 0, _ => rfl
  | n + 1, h => by
    have h1 := ffN_none (n := n) (fun j a b => h j a (by omega))
    have h2 := h n (by omega) (by omega)
    simp [ffN, h1, h2]
theorem ff_none {p : Int → Bool} {n : Int} (h : ∀ j, 0 ≤ j → j < n → p j = false) : ff p n = -1 := ffN_none (fun j a b => h j a (by omega))
theorem ffN_at {p : Int → Bool} {k : Int} (h0 : 0 ≤ k) (hp : p k = true) (h : ∀ j, 0 ≤ j → j < k → p j = false) : ∀ {n : Nat}, k < n → ffN p n = k
  | 0, hk => by omega
  | n + 1, hk => by
    by_cases hkn : k < n
    · have := ffN_at h0 hp h hkn
      simp only [ffN, this]
      rw [if_pos (by omega)]
    · have e : k = n := by omega
      subst e
      have := ffN_none (n := n) h
      simp [ffN, this, hp]
theorem ff_at {p : Int → Bool} {k n : Int} (h0 : 0 ≤ k) (hk : k < n) (hp : p k = true) (h : ∀ j, 0 ≤ j → j < k → p j = false) : ff p n = k := ffN_at h0 hp h (by omega)
theorem ff_cases (p : Int → Bool) {n : Int} (hn : 0 ≤ n) : (ff p n = -1 ∧ ∀ j, 0 ≤ j → j < n → p j = false) ∨ (0 ≤ ff p n ∧ ff p n < n ∧ p (ff p n) = true ∧ ∀ j, 0 ≤ j → j < ff p n → p j = false) := by
  refine sm_ind (p := fun m => (ff p m = -1 ∧ ∀ j, 0 ≤ j → j < m → p j = false) ∨ (0 ≤ ff p m ∧ ff p m < m ∧ p (ff p m) = true ∧ ∀ j, 0 ≤ j → j < ff p m → p j = false)) n (Or.inl ⟨rfl, fun j a b => by omega⟩) ?_ hn
  intro k h1 h2 ih
  rcases ih with ⟨a, b⟩ | ⟨a, b, c, d⟩
  · cases hk : p k with
    | false =>
      have h3 : ∀ j, 0 ≤ j → j < k + 1 → p j = false := fun j x y => by
        by_cases e : j = k
        · rw [e]; exact hk
        · exact b j x (by omega)
      exact Or.inl ⟨ff_none h3, h3⟩
    | true =>
      have e := ff_at (n := k + 1) h1 (by omega) hk b
      rw [e]
      exact Or.inr ⟨h1, by omega, hk, b⟩
  · have e := ff_at (n := k + 1) a (by omega) c d
    rw [e]
    exact Or.inr ⟨a, by omega, c, d⟩
theorem ff_rng (p : Int → Bool) {n : Int} (hn : 0 ≤ n) : -1 ≤ ff p n ∧ ff p n < n + 1 ∧ (ff p n = -1 ∨ ff p n < n) := by
  rcases ff_cases p hn with ⟨a, _⟩ | ⟨a, b, _⟩ <;> omega
theorem no_s {p : Int → Bool} {k : Int} (h : ∀ j, 0 ≤ j → j < k → p j = false) (hk : p k = false) : ∀ j, 0 ≤ j → j < k + 1 → p j = false := fun j a b => by
  by_cases e : j = k
  · rw [e]; exact hk
  · exact h j a (by omega)
theorem no_0 {p : Int → Bool} : ∀ j : Int, 0 ≤ j → j < 0 → p j = false := fun j a b => by omega
/-- the bounds of the reference's fields -/
def mln (f : Nat) : Int := if f = 0 ∨ f = 5 ∨ f = 17 ∨ f = 18 then 1 else if f = 6 ∨ f = 7 then 4 else if f = 8 ∨ f = 9 then 2 else if f ≤ 4 then 8 else 60
def mlo (f : Nat) : Int := if f = 15 ∨ f = 19 then -1 else 0
def mhi (f : Nat) : Int := if f = 0 then 3 else if f = 1 then 3 else if f = 2 then 20 else if f = 3 ∨ f = 4 then 10000 else if f = 5 then 8 else if f = 6 ∨ f = 7 then 10000 else if f = 8 then 20000 else if f = 9 then 1 else if f = 10 then 1000000 else if f = 11 then 6 else if f = 12 then 2000 else if f = 13 then 1000 else if f = 14 then 2 else if f = 15 ∨ f = 19 then 7 else if f = 16 ∨ f = 20 then 19 else if f = 17 then 60 else 1000000
def MB (σ : sT) : Prop := ∀ (f : Nat) (z : Int), 0 ≤ z → z < mln f → mlo f ≤ σ f z ∧ σ f z ≤ mhi f
theorem mb_su {σ : sT} (h : MB σ) {f : Nat} {z v : Int} (hv : mlo f ≤ v ∧ v ≤ mhi f) : MB (su σ f z v) := by
  intro f' z' h0 h1
  unfold su
  split
  · rename_i e
    subst e
    unfold iup
    split
    · exact hv
    · exact h _ _ h0 h1
  · exact h _ _ h0 h1
/-! ===== what the reference tells, as plain functions ===== -/
def inn (v lo hi : Int) : Bool := decide (lo ≤ v) && decide (v ≤ hi)
def cdd (c f : Int) : Bool := decide (c = 2) || decide (c = f)
def m_find (σ : sT) (num : Int) : Int := ff (fun k => decide (σ 10 k = num)) (σ 17 0)
def m_wo (σ : sT) (r f k : Int) : Int := if σ 15 k ≠ -1 ∧ (r = -1 ∨ σ 15 k = r) ∧ cdd (σ 14 k) f = true then σ 12 k else 0
def m_worst (σ : sT) (r f : Int) : Int := sm (m_wo σ r f) (σ 17 0)
def m_we (σ : sT) (r k : Int) : Int := if σ 15 k = r then σ 13 k else 0
def m_weighs (σ : sT) (r : Int) : Int := sm (m_we σ r) (σ 17 0)
def m_rw (σ : sT) (row r : Int) : Int := if σ 1 r = row then m_weighs σ r else 0
def m_rowWeighs (σ : sT) (row : Int) : Int := sm (m_rw σ row) (σ 5 0)
def m_rh (σ : sT) (row k : Int) : Int := if σ 15 k ≠ -1 ∧ σ 1 (σ 15 k) = row then σ 12 k else 0
def m_rowHeats (σ : sT) (row : Int) : Int := sm (m_rh σ row) (σ 17 0)
def m_dark (σ : sT) (k : Int) : Bool := (decide (σ 9 0 = 1) || !(cdd (σ 14 k) 0)) && (decide (σ 9 1 = 1) || !(cdd (σ 14 k) 1))
def m_ins (σ : sT) (r s k : Int) : Bool := decide (σ 15 k = r) && (decide (σ 16 k ≤ s) && decide (s < σ 16 k + σ 11 k))
def m_inSlot (σ : sT) (r s : Int) : Int := ff (m_ins σ r s) (σ 17 0)
