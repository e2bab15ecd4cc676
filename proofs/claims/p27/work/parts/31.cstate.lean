/-! ===== the class's heap ===== -/
def ad (r : Nat → Int → Option Nat) (i : Nat) (k : Int) : Nat := (r i k).getD 0
def clive (cp : Nat → Nat) (f : Nat) : Bool := decide (f < 23) || decide (cp (f - 23) ≠ 0)
def edv (g : gT) (P cp : Nat → Nat) (i : Nat) : Nat := if cp i = 0 then g.2.2 else P (23 + i)
def clst (g : gT) (P cp : Nat → Nat) (τ : sT) (i : Nat) : List Value := [.int (iI (τ (50 + i) 0)), .ref (edv g P cp i), .int (iI (τ (53 + i) 0))]
def clay (P : Nat → Nat) (w : Nat) : List Value := [.ref (P 1), .ref (P (w + 1)), .ref (P (w + 2)), .ref (P (w + 3)), .ref (P (w + 4))]
def cobj (P : Nat → Nat) (b b' : Nat) (τ : sT) : List Value := [.ref (P 1), .ref (P 2), .ref (P 3), .ref (P 4), .ref (P b), .ref (P b'), .int (iI (τ 0 0))]
def csite (P : Nat → Nat) : List Value := [.ref (P 19), .ref (P 20), .ref (P 21), .ref (P 22)]
def cmo (τ : sT) (q : Nat) : List Value := [.int (iI (τ 30 q)), .int (iI (τ 31 q)), .int (iI (τ 32 q)), .int (iI (τ 33 q)), .int (iI (τ 34 q)), .int (iI (τ 35 q)), .int (iI (τ 36 q))]
def cro (τ : sT) (q : Nat) : List Value := [.int (iI (τ 40 q)), .int (iI (τ 41 q)), .int (iI (τ 42 q)), .int (iI (τ 43 q))]
def cout (P : Nat → Nat) (w : Nat) : Int → Option Nat := fun z => if z ≤ 0 then some (P (w + 5)) else some (P (w + 6))
theorem cout_fd {P : Nat → Nat} {w : Nat} {z : Int} (hz : 0 ≤ z ∧ z < 2) : cout P w z = some (P (w + 5 + z.toNat)) := by rcases (show z = 0 ∨ z = 1 by omega) with rfl | rfl <;> rfl
def ccell (g : gT) (P : Nat → Nat) (r : Nat → Int → Option Nat) (cp : Nat → Nat) (b b' : Nat) (τ : sT) (f : Nat) : va_E :=
  match f with
  | 0 => .inr (7, cobj P b b' τ)
  | 1 => .inr (6, csite P)
  | 2 => iar (g.2.1 1) 2 (τ 2)
  | 3 => .inr (2, clst g P cp τ 0)
  | 4 => .inr (2, clst g P cp τ 1)
  | 19 => .inr (2, clst g P cp τ 2)
  | 5 => .inr (3, clay P 5)
  | 12 => .inr (3, clay P 12)
  | 6 => iar (g.2.1 0) 160 (τ 6)
  | 13 => iar (g.2.1 0) 160 (τ 13)
  | 9 => qar (g.2.1 3) 2 (cout P 5)
  | 16 => qar (g.2.1 3) 2 (cout P 12)
  | 20 => iar (g.2.1 0) 4 (τ 20)
  | 21 => iar (g.2.1 0) 4 (τ 21)
  | 22 => iar (g.2.1 0) 2 (τ 22)
  | 23 => qar (g.2.1 2) (cp 0) (r 0)
  | 24 => qar (g.2.1 2) (cp 1) (r 1)
  | 25 => qar (g.2.1 2) (cp 2) (r 2)
  | f => iar (g.2.1 0) 8 (τ f)
def kcell (τ : sT) (k q : Nat) : Option va_E := if k = 1 then some (.inr (4, cmo τ q)) else if k = 2 then some (.inr (5, cro τ q)) else none
def cks : List Nat := List.range 26
def cheap (g : gT) (P K : Nat → Nat) (r : Nat → Int → Option Nat) (cp : Nat → Nat) (b b' : Nat) (τ : sT) : fH := fun q =>
  match cks.find? (fun f => clive cp f && P f == q) with
  | some f => some (ccell g P r cp b b' τ f)
  | none => kcell τ (K q) q
def cok (P K cp : Nat → Nat) : Prop := (∀ f ∈ cks, clive cp f = true → ∀ f' ∈ cks, clive cp f' = true → P f = P f' → f = f') ∧ ∀ f ∈ cks, clive cp f = true → K (P f) ≠ 1 ∧ K (P f) ≠ 2
section CH
variable {g : gT} {P K : Nat → Nat} {r : Nat → Int → Option Nat} {cp : Nat → Nat} {b b' : Nat} {τ : sT}
theorem ch_find (hk : cok P K cp) {f : Nat} (hf : f < 26) (hl : clive cp f = true) : cks.find? (fun f' => clive cp f' && P f' == P f) = some f := by
  cases h : cks.find? (fun f' => clive cp f' && P f' == P f) with
  | none =>
    have := List.find?_eq_none.mp h f (List.mem_range.mpr hf)
    exact absurd this (by simp [hl])
  | some f' =>
    have h1 := List.find?_some h
    have h2 := List.mem_of_find?_eq_some h
    rw [Bool.and_eq_true] at h1
    rw [hk.1 f' h2 h1.1 f (List.mem_range.mpr hf) hl (by simpa using h1.2)]
theorem ch_at (hk : cok P K cp) {f : Nat} (hf : f < 26) (hl : clive cp f = true) : cheap g P K r cp b b' τ (P f) = some (ccell g P r cp b b' τ f) := by
  unfold cheap
  rw [ch_find hk hf hl]
theorem clv {f : Nat} (h : f < 23) : clive cp f = true := by unfold clive; rw [Bool.or_eq_true]; exact Or.inl (decide_eq_true h)
theorem clv2 {i : Nat} (h : cp i ≠ 0) : clive cp (23 + i) = true := by unfold clive; rw [Bool.or_eq_true]; exact Or.inr (decide_eq_true (by rw [Nat.add_sub_cancel_left]; exact h))
theorem ch_none (hk : cok P K cp) {q : Nat} (hq : K q = 1 ∨ K q = 2) : cks.find? (fun f => clive cp f && P f == q) = none := by
  refine List.find?_eq_none.mpr (fun f hf h => ?_)
  rw [Bool.and_eq_true] at h
  have h2 : P f = q := by simpa using h.2
  have h3 := hk.2 f hf h.1
  rw [h2] at h3
  rcases hq with hq | hq
  · exact h3.1 hq
  · exact h3.2 hq
theorem ch_m (hk : cok P K cp) {q : Nat} (hq : K q = 1) : cheap g P K r cp b b' τ q = some (.inr (4, cmo τ q)) := by
  unfold cheap
  rw [ch_none hk (Or.inl hq), hq]
  rfl
theorem ch_r (hk : cok P K cp) {q : Nat} (hq : K q = 2) : cheap g P K r cp b b' τ q = some (.inr (5, cro τ q)) := by
  unfold cheap
  rw [ch_none hk (Or.inr hq), hq]
  rfl
theorem ch_up (hk : cok P K cp) {f : Nat} {e : va_E} {τ' : sT} {c c' : Nat} (hf : f < 26) (hl : clive cp f = true) (he : ccell g P r cp c c' τ' f = e) (ho : ∀ f', f' < 26 → f' ≠ f → ccell g P r cp b b' τ f' = ccell g P r cp c c' τ' f') (hm : ∀ k q, kcell τ k q = kcell τ' k q) : f_up (cheap g P K r cp b b' τ) (P f) e = cheap g P K r cp c c' τ' := by
  funext q
  by_cases h : q = P f
  · subst h
    rw [f_up_s, ch_at hk hf hl, he]
  · rw [f_up_n h]
    unfold cheap
    cases h2 : cks.find? (fun f' => clive cp f' && P f' == q) with
    | none => exact hm _ _
    | some f' =>
      have h3 := List.find?_some h2
      rw [Bool.and_eq_true] at h3
      have h4 : P f' = q := by simpa using h3.2
      have h5 : f' ≠ f := fun z => h (by rw [← h4, z])
      show some _ = some _
      rw [ho f' (List.mem_range.mp (List.mem_of_find?_eq_some h2)) h5]
/-- another contents of an array -/
def sf (τ : sT) (f : Nat) (F : Int → Int) : sT := fun f' => if f' = f then F else τ f'
theorem sf_s (τ : sT) (f : Nat) (F : Int → Int) : sf τ f F f = F := if_pos rfl
theorem sf_n {τ : sT} {f f' : Nat} {F : Int → Int} (h : f' ≠ f) : sf τ f F f' = τ f' := if_neg h
theorem su_sf (τ : sT) (f : Nat) (z v : Int) : su τ f z v = sf τ f (iup (τ f) z v) := rfl
theorem k_sf {τ : sT} {f : Nat} {F : Int → Int} (h : f < 30 ∨ 43 < f) (k q : Nat) : kcell τ k q = kcell (sf τ f F) k q := by
  have e : ∀ j, 30 ≤ j → j ≤ 43 → sf τ f F j = τ j := fun j h1 h2 => sf_n (by omega)
  unfold kcell cmo cro
  rw [e 30 (by omega) (by omega), e 31 (by omega) (by omega), e 32 (by omega) (by omega), e 33 (by omega) (by omega), e 34 (by omega) (by omega), e 35 (by omega) (by omega), e 36 (by omega) (by omega), e 40 (by omega) (by omega), e 41 (by omega) (by omega), e 42 (by omega) (by omega), e 43 (by omega) (by omega)]

theorem c_all {p : Nat → Prop} (h : p 0 ∧ p 1 ∧ p 2 ∧ p 3 ∧ p 4 ∧ p 5 ∧ p 6 ∧ p 7 ∧ p 8 ∧ p 9 ∧ p 10 ∧ p 11 ∧ p 12 ∧ p 13 ∧ p 14 ∧ p 15 ∧ p 16 ∧ p 17 ∧ p 18 ∧ p 19 ∧ p 20 ∧ p 21 ∧ p 22 ∧ p 23 ∧ p 24 ∧ p 25) (f9 : Nat) (hf : f9 < 26) : p f9 := by
  obtain ⟨h0, h1, h2, h3, h4, h5, h6, h7, h8, h9, h10, h11, h12, h13, h14, h15, h16, h17, h18, h19, h20, h21, h22, h23, h24, h25⟩ := h
  rcases (show f9 = 0 ∨ f9 = 1 ∨ f9 = 2 ∨ f9 = 3 ∨ f9 = 4 ∨ f9 = 5 ∨ f9 = 6 ∨ f9 = 7 ∨ f9 = 8 ∨ f9 = 9 ∨ f9 = 10 ∨ f9 = 11 ∨ f9 = 12 ∨ f9 = 13 ∨ f9 = 14 ∨ f9 = 15 ∨ f9 = 16 ∨ f9 = 17 ∨ f9 = 18 ∨ f9 = 19 ∨ f9 = 20 ∨ f9 = 21 ∨ f9 = 22 ∨ f9 = 23 ∨ f9 = 24 ∨ f9 = 25 by omega) with rfl | rfl | rfl | rfl | rfl | rfl | rfl | rfl | rfl | rfl | rfl | rfl | rfl | rfl | rfl | rfl | rfl | rfl | rfl | rfl | rfl | rfl | rfl | rfl | rfl | rfl <;> assumption
theorem ch_0 (hk : cok P K cp) : cheap g P K r cp b b' τ (P 0) = some (ccell g P r cp b b' τ 0) := ch_at hk (by decide) (clv (by decide))
theorem ch_1 (hk : cok P K cp) : cheap g P K r cp b b' τ (P 1) = some (ccell g P r cp b b' τ 1) := ch_at hk (by decide) (clv (by decide))
theorem ch_2 (hk : cok P K cp) : cheap g P K r cp b b' τ (P 2) = some (ccell g P r cp b b' τ 2) := ch_at hk (by decide) (clv (by decide))
theorem ch_3 (hk : cok P K cp) : cheap g P K r cp b b' τ (P 3) = some (ccell g P r cp b b' τ 3) := ch_at hk (by decide) (clv (by decide))
theorem ch_4 (hk : cok P K cp) : cheap g P K r cp b b' τ (P 4) = some (ccell g P r cp b b' τ 4) := ch_at hk (by decide) (clv (by decide))
theorem ch_5 (hk : cok P K cp) : cheap g P K r cp b b' τ (P 5) = some (ccell g P r cp b b' τ 5) := ch_at hk (by decide) (clv (by decide))
theorem ch_9 (hk : cok P K cp) : cheap g P K r cp b b' τ (P 9) = some (ccell g P r cp b b' τ 9) := ch_at hk (by decide) (clv (by decide))
theorem ch_12 (hk : cok P K cp) : cheap g P K r cp b b' τ (P 12) = some (ccell g P r cp b b' τ 12) := ch_at hk (by decide) (clv (by decide))
theorem ch_16 (hk : cok P K cp) : cheap g P K r cp b b' τ (P 16) = some (ccell g P r cp b b' τ 16) := ch_at hk (by decide) (clv (by decide))
theorem ch_19 (hk : cok P K cp) : cheap g P K r cp b b' τ (P 19) = some (ccell g P r cp b b' τ 19) := ch_at hk (by decide) (clv (by decide))
theorem ch_6 (hk : cok P K cp) : cheap g P K r cp b b' τ (P 6) = some (ccell g P r cp b b' τ 6) := ch_at hk (by decide) (clv (by decide))
theorem ch_7 (hk : cok P K cp) : cheap g P K r cp b b' τ (P 7) = some (ccell g P r cp b b' τ 7) := ch_at hk (by decide) (clv (by decide))
theorem ch_8 (hk : cok P K cp) : cheap g P K r cp b b' τ (P 8) = some (ccell g P r cp b b' τ 8) := ch_at hk (by decide) (clv (by decide))
theorem ch_10 (hk : cok P K cp) : cheap g P K r cp b b' τ (P 10) = some (ccell g P r cp b b' τ 10) := ch_at hk (by decide) (clv (by decide))
theorem ch_11 (hk : cok P K cp) : cheap g P K r cp b b' τ (P 11) = some (ccell g P r cp b b' τ 11) := ch_at hk (by decide) (clv (by decide))
theorem ch_13 (hk : cok P K cp) : cheap g P K r cp b b' τ (P 13) = some (ccell g P r cp b b' τ 13) := ch_at hk (by decide) (clv (by decide))
theorem ch_14 (hk : cok P K cp) : cheap g P K r cp b b' τ (P 14) = some (ccell g P r cp b b' τ 14) := ch_at hk (by decide) (clv (by decide))
theorem ch_15 (hk : cok P K cp) : cheap g P K r cp b b' τ (P 15) = some (ccell g P r cp b b' τ 15) := ch_at hk (by decide) (clv (by decide))
theorem ch_17 (hk : cok P K cp) : cheap g P K r cp b b' τ (P 17) = some (ccell g P r cp b b' τ 17) := ch_at hk (by decide) (clv (by decide))
theorem ch_18 (hk : cok P K cp) : cheap g P K r cp b b' τ (P 18) = some (ccell g P r cp b b' τ 18) := ch_at hk (by decide) (clv (by decide))
theorem ch_20 (hk : cok P K cp) : cheap g P K r cp b b' τ (P 20) = some (ccell g P r cp b b' τ 20) := ch_at hk (by decide) (clv (by decide))
theorem ch_21 (hk : cok P K cp) : cheap g P K r cp b b' τ (P 21) = some (ccell g P r cp b b' τ 21) := ch_at hk (by decide) (clv (by decide))
theorem ch_22 (hk : cok P K cp) : cheap g P K r cp b b' τ (P 22) = some (ccell g P r cp b b' τ 22) := ch_at hk (by decide) (clv (by decide))
theorem ch_23 (hk : cok P K cp) (hc : cp 0 ≠ 0) : cheap g P K r cp b b' τ (P 23) = some (ccell g P r cp b b' τ 23) := ch_at hk (by decide) (clv2 (i := 0) hc)
theorem ch_24 (hk : cok P K cp) (hc : cp 1 ≠ 0) : cheap g P K r cp b b' τ (P 24) = some (ccell g P r cp b b' τ 24) := ch_at hk (by decide) (clv2 (i := 1) hc)
theorem ch_25 (hk : cok P K cp) (hc : cp 2 ≠ 0) : cheap g P K r cp b b' τ (P 25) = some (ccell g P r cp b b' τ 25) := ch_at hk (by decide) (clv2 (i := 2) hc)
theorem cu_6 (hk : cok P K cp) (F : Int → Int) : f_up (cheap g P K r cp b b' τ) (P 6) (iar (g.2.1 0) 160 F) = cheap g P K r cp b b' (sf τ 6 F) := ch_up hk (by decide) (clv (by decide)) rfl (c_all (p := fun f => f ≠ 6 → _ = _) ⟨(fun _ => rfl), (fun _ => rfl), (fun _ => rfl), (fun _ => rfl), (fun _ => rfl), (fun _ => rfl), (fun h => absurd rfl h), (fun _ => rfl), (fun _ => rfl), (fun _ => rfl), (fun _ => rfl), (fun _ => rfl), (fun _ => rfl), (fun _ => rfl), (fun _ => rfl), (fun _ => rfl), (fun _ => rfl), (fun _ => rfl), (fun _ => rfl), (fun _ => rfl), (fun _ => rfl), (fun _ => rfl), (fun _ => rfl), (fun _ => rfl), (fun _ => rfl), (fun _ => rfl)⟩) (k_sf (by omega))
theorem cu_7 (hk : cok P K cp) (F : Int → Int) : f_up (cheap g P K r cp b b' τ) (P 7) (iar (g.2.1 0) 8 F) = cheap g P K r cp b b' (sf τ 7 F) := ch_up hk (by decide) (clv (by decide)) rfl (c_all (p := fun f => f ≠ 7 → _ = _) ⟨(fun _ => rfl), (fun _ => rfl), (fun _ => rfl), (fun _ => rfl), (fun _ => rfl), (fun _ => rfl), (fun _ => rfl), (fun h => absurd rfl h), (fun _ => rfl), (fun _ => rfl), (fun _ => rfl), (fun _ => rfl), (fun _ => rfl), (fun _ => rfl), (fun _ => rfl), (fun _ => rfl), (fun _ => rfl), (fun _ => rfl), (fun _ => rfl), (fun _ => rfl), (fun _ => rfl), (fun _ => rfl), (fun _ => rfl), (fun _ => rfl), (fun _ => rfl), (fun _ => rfl)⟩) (k_sf (by omega))
theorem cu_8 (hk : cok P K cp) (F : Int → Int) : f_up (cheap g P K r cp b b' τ) (P 8) (iar (g.2.1 0) 8 F) = cheap g P K r cp b b' (sf τ 8 F) := ch_up hk (by decide) (clv (by decide)) rfl (c_all (p := fun f => f ≠ 8 → _ = _) ⟨(fun _ => rfl), (fun _ => rfl), (fun _ => rfl), (fun _ => rfl), (fun _ => rfl), (fun _ => rfl), (fun _ => rfl), (fun _ => rfl), (fun h => absurd rfl h), (fun _ => rfl), (fun _ => rfl), (fun _ => rfl), (fun _ => rfl), (fun _ => rfl), (fun _ => rfl), (fun _ => rfl), (fun _ => rfl), (fun _ => rfl), (fun _ => rfl), (fun _ => rfl), (fun _ => rfl), (fun _ => rfl), (fun _ => rfl), (fun _ => rfl), (fun _ => rfl), (fun _ => rfl)⟩) (k_sf (by omega))
theorem cu_10 (hk : cok P K cp) (F : Int → Int) : f_up (cheap g P K r cp b b' τ) (P 10) (iar (g.2.1 0) 8 F) = cheap g P K r cp b b' (sf τ 10 F) := ch_up hk (by decide) (clv (by decide)) rfl (c_all (p := fun f => f ≠ 10 → _ = _) ⟨(fun _ => rfl), (fun _ => rfl), (fun _ => rfl), (fun _ => rfl), (fun _ => rfl), (fun _ => rfl), (fun _ => rfl), (fun _ => rfl), (fun _ => rfl), (fun _ => rfl), (fun h => absurd rfl h), (fun _ => rfl), (fun _ => rfl), (fun _ => rfl), (fun _ => rfl), (fun _ => rfl), (fun _ => rfl), (fun _ => rfl), (fun _ => rfl), (fun _ => rfl), (fun _ => rfl), (fun _ => rfl), (fun _ => rfl), (fun _ => rfl), (fun _ => rfl), (fun _ => rfl)⟩) (k_sf (by omega))
theorem cu_11 (hk : cok P K cp) (F : Int → Int) : f_up (cheap g P K r cp b b' τ) (P 11) (iar (g.2.1 0) 8 F) = cheap g P K r cp b b' (sf τ 11 F) := ch_up hk (by decide) (clv (by decide)) rfl (c_all (p := fun f => f ≠ 11 → _ = _) ⟨(fun _ => rfl), (fun _ => rfl), (fun _ => rfl), (fun _ => rfl), (fun _ => rfl), (fun _ => rfl), (fun _ => rfl), (fun _ => rfl), (fun _ => rfl), (fun _ => rfl), (fun _ => rfl), (fun h => absurd rfl h), (fun _ => rfl), (fun _ => rfl), (fun _ => rfl), (fun _ => rfl), (fun _ => rfl), (fun _ => rfl), (fun _ => rfl), (fun _ => rfl), (fun _ => rfl), (fun _ => rfl), (fun _ => rfl), (fun _ => rfl), (fun _ => rfl), (fun _ => rfl)⟩) (k_sf (by omega))
theorem cu_13 (hk : cok P K cp) (F : Int → Int) : f_up (cheap g P K r cp b b' τ) (P 13) (iar (g.2.1 0) 160 F) = cheap g P K r cp b b' (sf τ 13 F) := ch_up hk (by decide) (clv (by decide)) rfl (c_all (p := fun f => f ≠ 13 → _ = _) ⟨(fun _ => rfl), (fun _ => rfl), (fun _ => rfl), (fun _ => rfl), (fun _ => rfl), (fun _ => rfl), (fun _ => rfl), (fun _ => rfl), (fun _ => rfl), (fun _ => rfl), (fun _ => rfl), (fun _ => rfl), (fun _ => rfl), (fun h => absurd rfl h), (fun _ => rfl), (fun _ => rfl), (fun _ => rfl), (fun _ => rfl), (fun _ => rfl), (fun _ => rfl), (fun _ => rfl), (fun _ => rfl), (fun _ => rfl), (fun _ => rfl), (fun _ => rfl), (fun _ => rfl)⟩) (k_sf (by omega))
theorem cu_14 (hk : cok P K cp) (F : Int → Int) : f_up (cheap g P K r cp b b' τ) (P 14) (iar (g.2.1 0) 8 F) = cheap g P K r cp b b' (sf τ 14 F) := ch_up hk (by decide) (clv (by decide)) rfl (c_all (p := fun f => f ≠ 14 → _ = _) ⟨(fun _ => rfl), (fun _ => rfl), (fun _ => rfl), (fun _ => rfl), (fun _ => rfl), (fun _ => rfl), (fun _ => rfl), (fun _ => rfl), (fun _ => rfl), (fun _ => rfl), (fun _ => rfl), (fun _ => rfl), (fun _ => rfl), (fun _ => rfl), (fun h => absurd rfl h), (fun _ => rfl), (fun _ => rfl), (fun _ => rfl), (fun _ => rfl), (fun _ => rfl), (fun _ => rfl), (fun _ => rfl), (fun _ => rfl), (fun _ => rfl), (fun _ => rfl), (fun _ => rfl)⟩) (k_sf (by omega))
theorem cu_15 (hk : cok P K cp) (F : Int → Int) : f_up (cheap g P K r cp b b' τ) (P 15) (iar (g.2.1 0) 8 F) = cheap g P K r cp b b' (sf τ 15 F) := ch_up hk (by decide) (clv (by decide)) rfl (c_all (p := fun f => f ≠ 15 → _ = _) ⟨(fun _ => rfl), (fun _ => rfl), (fun _ => rfl), (fun _ => rfl), (fun _ => rfl), (fun _ => rfl), (fun _ => rfl), (fun _ => rfl), (fun _ => rfl), (fun _ => rfl), (fun _ => rfl), (fun _ => rfl), (fun _ => rfl), (fun _ => rfl), (fun _ => rfl), (fun h => absurd rfl h), (fun _ => rfl), (fun _ => rfl), (fun _ => rfl), (fun _ => rfl), (fun _ => rfl), (fun _ => rfl), (fun _ => rfl), (fun _ => rfl), (fun _ => rfl), (fun _ => rfl)⟩) (k_sf (by omega))
theorem cu_17 (hk : cok P K cp) (F : Int → Int) : f_up (cheap g P K r cp b b' τ) (P 17) (iar (g.2.1 0) 8 F) = cheap g P K r cp b b' (sf τ 17 F) := ch_up hk (by decide) (clv (by decide)) rfl (c_all (p := fun f => f ≠ 17 → _ = _) ⟨(fun _ => rfl), (fun _ => rfl), (fun _ => rfl), (fun _ => rfl), (fun _ => rfl), (fun _ => rfl), (fun _ => rfl), (fun _ => rfl), (fun _ => rfl), (fun _ => rfl), (fun _ => rfl), (fun _ => rfl), (fun _ => rfl), (fun _ => rfl), (fun _ => rfl), (fun _ => rfl), (fun _ => rfl), (fun h => absurd rfl h), (fun _ => rfl), (fun _ => rfl), (fun _ => rfl), (fun _ => rfl), (fun _ => rfl), (fun _ => rfl), (fun _ => rfl), (fun _ => rfl)⟩) (k_sf (by omega))
theorem cu_18 (hk : cok P K cp) (F : Int → Int) : f_up (cheap g P K r cp b b' τ) (P 18) (iar (g.2.1 0) 8 F) = cheap g P K r cp b b' (sf τ 18 F) := ch_up hk (by decide) (clv (by decide)) rfl (c_all (p := fun f => f ≠ 18 → _ = _) ⟨(fun _ => rfl), (fun _ => rfl), (fun _ => rfl), (fun _ => rfl), (fun _ => rfl), (fun _ => rfl), (fun _ => rfl), (fun _ => rfl), (fun _ => rfl), (fun _ => rfl), (fun _ => rfl), (fun _ => rfl), (fun _ => rfl), (fun _ => rfl), (fun _ => rfl), (fun _ => rfl), (fun _ => rfl), (fun _ => rfl), (fun h => absurd rfl h), (fun _ => rfl), (fun _ => rfl), (fun _ => rfl), (fun _ => rfl), (fun _ => rfl), (fun _ => rfl), (fun _ => rfl)⟩) (k_sf (by omega))
theorem cu_20 (hk : cok P K cp) (F : Int → Int) : f_up (cheap g P K r cp b b' τ) (P 20) (iar (g.2.1 0) 4 F) = cheap g P K r cp b b' (sf τ 20 F) := ch_up hk (by decide) (clv (by decide)) rfl (c_all (p := fun f => f ≠ 20 → _ = _) ⟨(fun _ => rfl), (fun _ => rfl), (fun _ => rfl), (fun _ => rfl), (fun _ => rfl), (fun _ => rfl), (fun _ => rfl), (fun _ => rfl), (fun _ => rfl), (fun _ => rfl), (fun _ => rfl), (fun _ => rfl), (fun _ => rfl), (fun _ => rfl), (fun _ => rfl), (fun _ => rfl), (fun _ => rfl), (fun _ => rfl), (fun _ => rfl), (fun _ => rfl), (fun h => absurd rfl h), (fun _ => rfl), (fun _ => rfl), (fun _ => rfl), (fun _ => rfl), (fun _ => rfl)⟩) (k_sf (by omega))
theorem cu_21 (hk : cok P K cp) (F : Int → Int) : f_up (cheap g P K r cp b b' τ) (P 21) (iar (g.2.1 0) 4 F) = cheap g P K r cp b b' (sf τ 21 F) := ch_up hk (by decide) (clv (by decide)) rfl (c_all (p := fun f => f ≠ 21 → _ = _) ⟨(fun _ => rfl), (fun _ => rfl), (fun _ => rfl), (fun _ => rfl), (fun _ => rfl), (fun _ => rfl), (fun _ => rfl), (fun _ => rfl), (fun _ => rfl), (fun _ => rfl), (fun _ => rfl), (fun _ => rfl), (fun _ => rfl), (fun _ => rfl), (fun _ => rfl), (fun _ => rfl), (fun _ => rfl), (fun _ => rfl), (fun _ => rfl), (fun _ => rfl), (fun _ => rfl), (fun h => absurd rfl h), (fun _ => rfl), (fun _ => rfl), (fun _ => rfl), (fun _ => rfl)⟩) (k_sf (by omega))
theorem cu_22 (hk : cok P K cp) (F : Int → Int) : f_up (cheap g P K r cp b b' τ) (P 22) (iar (g.2.1 0) 2 F) = cheap g P K r cp b b' (sf τ 22 F) := ch_up hk (by decide) (clv (by decide)) rfl (c_all (p := fun f => f ≠ 22 → _ = _) ⟨(fun _ => rfl), (fun _ => rfl), (fun _ => rfl), (fun _ => rfl), (fun _ => rfl), (fun _ => rfl), (fun _ => rfl), (fun _ => rfl), (fun _ => rfl), (fun _ => rfl), (fun _ => rfl), (fun _ => rfl), (fun _ => rfl), (fun _ => rfl), (fun _ => rfl), (fun _ => rfl), (fun _ => rfl), (fun _ => rfl), (fun _ => rfl), (fun _ => rfl), (fun _ => rfl), (fun _ => rfl), (fun h => absurd rfl h), (fun _ => rfl), (fun _ => rfl), (fun _ => rfl)⟩) (k_sf (by omega))
theorem cu_2 (hk : cok P K cp) (F : Int → Int) : f_up (cheap g P K r cp b b' τ) (P 2) (iar (g.2.1 1) 2 F) = cheap g P K r cp b b' (sf τ 2 F) := ch_up hk (by decide) (clv (by decide)) rfl (c_all (p := fun f => f ≠ 2 → _ = _) ⟨(fun _ => rfl), (fun _ => rfl), (fun h => absurd rfl h), (fun _ => rfl), (fun _ => rfl), (fun _ => rfl), (fun _ => rfl), (fun _ => rfl), (fun _ => rfl), (fun _ => rfl), (fun _ => rfl), (fun _ => rfl), (fun _ => rfl), (fun _ => rfl), (fun _ => rfl), (fun _ => rfl), (fun _ => rfl), (fun _ => rfl), (fun _ => rfl), (fun _ => rfl), (fun _ => rfl), (fun _ => rfl), (fun _ => rfl), (fun _ => rfl), (fun _ => rfl), (fun _ => rfl)⟩) (k_sf (by omega))
theorem cu_nn (hk : cok P K cp) (v : Int) : f_up (cheap g P K r cp b b' τ) (P 0) (.inr (7, (cobj P b b' τ).set 6 (.int (iI v)))) = cheap g P K r cp b b' (su τ 0 0 v) := ch_up hk (by decide) (clv (by decide)) rfl (c_all (p := fun f => f ≠ 0 → _ = _) ⟨(fun h => absurd rfl h), (fun _ => rfl), (fun _ => rfl), (fun _ => rfl), (fun _ => rfl), (fun _ => rfl), (fun _ => rfl), (fun _ => rfl), (fun _ => rfl), (fun _ => rfl), (fun _ => rfl), (fun _ => rfl), (fun _ => rfl), (fun _ => rfl), (fun _ => rfl), (fun _ => rfl), (fun _ => rfl), (fun _ => rfl), (fun _ => rfl), (fun _ => rfl), (fun _ => rfl), (fun _ => rfl), (fun _ => rfl), (fun _ => rfl), (fun _ => rfl), (fun _ => rfl)⟩) (k_sf (by omega))
theorem cu_b (hk : cok P K cp) (c : Nat) : f_up (cheap g P K r cp b b' τ) (P 0) (.inr (7, (cobj P b b' τ).set 4 (.ref (P c)))) = cheap g P K r cp c b' τ := ch_up hk (by decide) (clv (by decide)) rfl (c_all (p := fun f => f ≠ 0 → _ = _) ⟨(fun h => absurd rfl h), (fun _ => rfl), (fun _ => rfl), (fun _ => rfl), (fun _ => rfl), (fun _ => rfl), (fun _ => rfl), (fun _ => rfl), (fun _ => rfl), (fun _ => rfl), (fun _ => rfl), (fun _ => rfl), (fun _ => rfl), (fun _ => rfl), (fun _ => rfl), (fun _ => rfl), (fun _ => rfl), (fun _ => rfl), (fun _ => rfl), (fun _ => rfl), (fun _ => rfl), (fun _ => rfl), (fun _ => rfl), (fun _ => rfl), (fun _ => rfl), (fun _ => rfl)⟩) (fun _ _ => rfl)
theorem cu_b' (hk : cok P K cp) (c : Nat) : f_up (cheap g P K r cp b b' τ) (P 0) (.inr (7, (cobj P b b' τ).set 5 (.ref (P c)))) = cheap g P K r cp b c τ := ch_up hk (by decide) (clv (by decide)) rfl (c_all (p := fun f => f ≠ 0 → _ = _) ⟨(fun h => absurd rfl h), (fun _ => rfl), (fun _ => rfl), (fun _ => rfl), (fun _ => rfl), (fun _ => rfl), (fun _ => rfl), (fun _ => rfl), (fun _ => rfl), (fun _ => rfl), (fun _ => rfl), (fun _ => rfl), (fun _ => rfl), (fun _ => rfl), (fun _ => rfl), (fun _ => rfl), (fun _ => rfl), (fun _ => rfl), (fun _ => rfl), (fun _ => rfl), (fun _ => rfl), (fun _ => rfl), (fun _ => rfl), (fun _ => rfl), (fun _ => rfl), (fun _ => rfl)⟩) (fun _ _ => rfl)
theorem cu_m4 (hk : cok P K cp) {q : Nat} (hq : K q = 1) (v : Int) : f_up (cheap g P K r cp b b' τ) q (.inr (4, (cmo τ q).set 4 (.int (iI v)))) = cheap g P K r cp b b' (su τ 34 q v) := by
  have e9 : su τ 34 q v 34 (q : Int) = v := iup_s _ _ _
  funext q'
  by_cases h : q' = q
  · subst h
    rw [f_up_s, ch_m hk hq]
    have e8 : cmo (su τ 34 q' v) q' = (cmo τ q').set 4 (.int (iI v)) := by
      show [Value.int (iI (τ 30 q')), Value.int (iI (τ 31 q')), Value.int (iI (τ 32 q')), Value.int (iI (τ 33 q')), Value.int (iI (su τ 34 q' v 34 q')), Value.int (iI (su τ 34 q' v 35 q')), Value.int (iI (su τ 34 q' v 36 q'))] = _
      rw [e9]
      rfl
    rw [e8]
  · rw [f_up_n h]
    unfold cheap
    cases h2 : cks.find? (fun f' => clive cp f' && P f' == q') with
    | none =>
      show kcell τ (K q') q' = kcell (su τ 34 q v) (K q') q'
      unfold kcell
      have e8 : cmo (su τ 34 q v) q' = cmo τ q' := by
        unfold cmo
        rw [show su τ 34 q v 34 (q' : Int) = τ 34 q' from iup_n (by omega)]
        rfl
      rw [e8]
      rfl
    | some f' =>
      show some _ = some _
      rw [(c_all (p := fun f => ccell g P r cp b b' τ f = ccell g P r cp b b' (su τ 34 q v) f) ⟨rfl, rfl, rfl, rfl, rfl, rfl, rfl, rfl, rfl, rfl, rfl, rfl, rfl, rfl, rfl, rfl, rfl, rfl, rfl, rfl, rfl, rfl, rfl, rfl, rfl, rfl⟩) f' (List.mem_range.mp (List.mem_of_find?_eq_some h2))]
theorem cu_m5 (hk : cok P K cp) {q : Nat} (hq : K q = 1) (v : Int) : f_up (cheap g P K r cp b b' τ) q (.inr (4, (cmo τ q).set 5 (.int (iI v)))) = cheap g P K r cp b b' (su τ 35 q v) := by
  have e9 : su τ 35 q v 35 (q : Int) = v := iup_s _ _ _
  funext q'
  by_cases h : q' = q
  · subst h
    rw [f_up_s, ch_m hk hq]
    have e8 : cmo (su τ 35 q' v) q' = (cmo τ q').set 5 (.int (iI v)) := by
      show [Value.int (iI (τ 30 q')), Value.int (iI (τ 31 q')), Value.int (iI (τ 32 q')), Value.int (iI (τ 33 q')), Value.int (iI (su τ 35 q' v 34 q')), Value.int (iI (su τ 35 q' v 35 q')), Value.int (iI (su τ 35 q' v 36 q'))] = _
      rw [e9]
      rfl
    rw [e8]
  · rw [f_up_n h]
    unfold cheap
    cases h2 : cks.find? (fun f' => clive cp f' && P f' == q') with
    | none =>
      show kcell τ (K q') q' = kcell (su τ 35 q v) (K q') q'
      unfold kcell
      have e8 : cmo (su τ 35 q v) q' = cmo τ q' := by
        unfold cmo
        rw [show su τ 35 q v 35 (q' : Int) = τ 35 q' from iup_n (by omega)]
        rfl
      rw [e8]
      rfl
    | some f' =>
      show some _ = some _
      rw [(c_all (p := fun f => ccell g P r cp b b' τ f = ccell g P r cp b b' (su τ 35 q v) f) ⟨rfl, rfl, rfl, rfl, rfl, rfl, rfl, rfl, rfl, rfl, rfl, rfl, rfl, rfl, rfl, rfl, rfl, rfl, rfl, rfl, rfl, rfl, rfl, rfl, rfl, rfl⟩) f' (List.mem_range.mp (List.mem_of_find?_eq_some h2))]
theorem cu_m6 (hk : cok P K cp) {q : Nat} (hq : K q = 1) (v : Int) : f_up (cheap g P K r cp b b' τ) q (.inr (4, (cmo τ q).set 6 (.int (iI v)))) = cheap g P K r cp b b' (su τ 36 q v) := by
  have e9 : su τ 36 q v 36 (q : Int) = v := iup_s _ _ _
  funext q'
  by_cases h : q' = q
  · subst h
    rw [f_up_s, ch_m hk hq]
    have e8 : cmo (su τ 36 q' v) q' = (cmo τ q').set 6 (.int (iI v)) := by
      show [Value.int (iI (τ 30 q')), Value.int (iI (τ 31 q')), Value.int (iI (τ 32 q')), Value.int (iI (τ 33 q')), Value.int (iI (su τ 36 q' v 34 q')), Value.int (iI (su τ 36 q' v 35 q')), Value.int (iI (su τ 36 q' v 36 q'))] = _
      rw [e9]
      rfl
    rw [e8]
  · rw [f_up_n h]
    unfold cheap
    cases h2 : cks.find? (fun f' => clive cp f' && P f' == q') with
    | none =>
      show kcell τ (K q') q' = kcell (su τ 36 q v) (K q') q'
      unfold kcell
      have e8 : cmo (su τ 36 q v) q' = cmo τ q' := by
        unfold cmo
        rw [show su τ 36 q v 36 (q' : Int) = τ 36 q' from iup_n (by omega)]
        rfl
      rw [e8]
      rfl
    | some f' =>
      show some _ = some _
      rw [(c_all (p := fun f => ccell g P r cp b b' τ f = ccell g P r cp b b' (su τ 36 q v) f) ⟨rfl, rfl, rfl, rfl, rfl, rfl, rfl, rfl, rfl, rfl, rfl, rfl, rfl, rfl, rfl, rfl, rfl, rfl, rfl, rfl, rfl, rfl, rfl, rfl, rfl, rfl⟩) f' (List.mem_range.mp (List.mem_of_find?_eq_some h2))]
theorem ch_lc (hk : cok P K cp) {w : Nat} (hw : w = 5 ∨ w = 12) : cheap g P K r cp b b' τ (P (w + 1)) = some (iar (g.2.1 0) 160 (τ (w + 1))) := by rcases hw with rfl | rfl; exact ch_6 hk; exact ch_13 hk
theorem cu_lc (hk : cok P K cp) {w : Nat} (hw : w = 5 ∨ w = 12) (F : Int → Int) : f_up (cheap g P K r cp b b' τ) (P (w + 1)) (iar (g.2.1 0) 160 F) = cheap g P K r cp b b' (sf τ (w + 1) F) := by rcases hw with rfl | rfl; exact cu_6 hk F; exact cu_13 hk F
theorem ch_lw (hk : cok P K cp) {w : Nat} (hw : w = 5 ∨ w = 12) : cheap g P K r cp b b' τ (P (w + 2)) = some (iar (g.2.1 0) 8 (τ (w + 2))) := by rcases hw with rfl | rfl; exact ch_7 hk; exact ch_14 hk
theorem cu_lw (hk : cok P K cp) {w : Nat} (hw : w = 5 ∨ w = 12) (F : Int → Int) : f_up (cheap g P K r cp b b' τ) (P (w + 2)) (iar (g.2.1 0) 8 F) = cheap g P K r cp b b' (sf τ (w + 2) F) := by rcases hw with rfl | rfl; exact cu_7 hk F; exact cu_14 hk F
theorem ch_lh (hk : cok P K cp) {w : Nat} (hw : w = 5 ∨ w = 12) : cheap g P K r cp b b' τ (P (w + 3)) = some (iar (g.2.1 0) 8 (τ (w + 3))) := by rcases hw with rfl | rfl; exact ch_8 hk; exact ch_15 hk
theorem cu_lh (hk : cok P K cp) {w : Nat} (hw : w = 5 ∨ w = 12) (F : Int → Int) : f_up (cheap g P K r cp b b' τ) (P (w + 3)) (iar (g.2.1 0) 8 F) = cheap g P K r cp b b' (sf τ (w + 3) F) := by rcases hw with rfl | rfl; exact cu_8 hk F; exact cu_15 hk F
theorem ch_lp (hk : cok P K cp) {w : Nat} (hw : w = 5 ∨ w = 12) : cheap g P K r cp b b' τ (P (w + 5)) = some (iar (g.2.1 0) 8 (τ (w + 5))) := by rcases hw with rfl | rfl; exact ch_10 hk; exact ch_17 hk
theorem cu_lp (hk : cok P K cp) {w : Nat} (hw : w = 5 ∨ w = 12) (F : Int → Int) : f_up (cheap g P K r cp b b' τ) (P (w + 5)) (iar (g.2.1 0) 8 F) = cheap g P K r cp b b' (sf τ (w + 5) F) := by rcases hw with rfl | rfl; exact cu_10 hk F; exact cu_17 hk F
theorem ch_lq (hk : cok P K cp) {w : Nat} (hw : w = 5 ∨ w = 12) : cheap g P K r cp b b' τ (P (w + 6)) = some (iar (g.2.1 0) 8 (τ (w + 6))) := by rcases hw with rfl | rfl; exact ch_11 hk; exact ch_18 hk
theorem cu_lq (hk : cok P K cp) {w : Nat} (hw : w = 5 ∨ w = 12) (F : Int → Int) : f_up (cheap g P K r cp b b' τ) (P (w + 6)) (iar (g.2.1 0) 8 F) = cheap g P K r cp b b' (sf τ (w + 6) F) := by rcases hw with rfl | rfl; exact cu_11 hk F; exact cu_18 hk F
theorem ch_lo (hk : cok P K cp) {w : Nat} (hw : w = 5 ∨ w = 12) : cheap g P K r cp b b' τ (P w) = some (.inr (3, clay P w)) := by rcases hw with rfl | rfl; exact ch_5 hk; exact ch_12 hk
theorem ch_lx (hk : cok P K cp) {w : Nat} (hw : w = 5 ∨ w = 12) : cheap g P K r cp b b' τ (P (w + 4)) = some (qar (g.2.1 3) 2 (cout P w)) := by rcases hw with rfl | rfl; exact ch_9 hk; exact ch_16 hk
theorem ch_lf (hk : cok P K cp) {w : Nat} (hw : w = 5 ∨ w = 12) {z : Int} (hz : 0 ≤ z ∧ z < 2) : cheap g P K r cp b b' τ (P (w + 5 + z.toNat)) = some (iar (g.2.1 0) 8 (τ (w + 5 + z.toNat))) := by rcases (show z = 0 ∨ z = 1 by omega) with rfl | rfl; exact ch_lp hk hw; exact ch_lq hk hw
theorem ch_L0 (hk : cok P K cp) : cheap g P K r cp b b' τ (P 3) = some (.inr (2, clst g P cp τ 0)) := ch_3 hk
end CH
