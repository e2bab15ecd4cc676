/-! ===== the reference's heap ===== -/
abbrev sT : Type := Nat → Int → Int
def su (σ : sT) (f : Nat) (z v : Int) : sT := fun f' => if f' = f then iup (σ f) z v else σ f'
theorem su_s (σ : sT) (f : Nat) (z v : Int) : su σ f z v f = iup (σ f) z v := if_pos rfl
theorem su_n {σ : sT} {f f' : Nat} {z v : Int} (h : f' ≠ f) : su σ f z v f' = σ f' := if_neg h
def mobj (P : Nat → Nat) (σ : sT) : List Value := [.int (iI (σ 0 0)), .ref (P 1), .ref (P 2), .ref (P 3), .ref (P 4), .int (iI (σ 5 0)), .ref (P 6), .ref (P 7), .ref (P 8), .ref (P 9), .ref (P 10), .ref (P 11), .ref (P 12), .ref (P 13), .ref (P 14), .ref (P 15), .ref (P 16), .int (iI (σ 17 0)), .int (iI (σ 18 0)), .ref (P 19), .ref (P 20)]
def mlen (f : Nat) : Nat := if f = 6 ∨ f = 7 then 4 else if f = 8 then 2 else if f ≤ 4 then 8 else 60
def mcell (g : gT) (P : Nat → Nat) (σ : sT) (f : Nat) : va_E := if f = 0 then .inr (8, mobj P σ) else if f = 9 then iar (g.2.1 1) 2 (σ 9) else iar (g.2.1 0) (mlen f) (σ f)
def mfs : List Nat := [0, 1, 2, 3, 4, 6, 7, 8, 9, 10, 11, 12, 13, 14, 15, 16, 19, 20]
def mheap (g : gT) (P : Nat → Nat) (σ : sT) : fH := fun q => (mfs.find? (fun f => P f == q)).map (mcell g P σ)
def mok (P : Nat → Nat) : Prop := ∀ f ∈ mfs, ∀ f' ∈ mfs, P f = P f' → f = f'
theorem mh_find {P : Nat → Nat} (hP : mok P) {f : Nat} (hf : f ∈ mfs) : mfs.find? (fun f' => P f' == P f) = some f := by
  cases h : mfs.find? (fun f' => P f' == P f) with
  | none => exact absurd (List.find?_eq_none.mp h f hf) (by simp)
  | some f' =>
    have h1 := List.find?_some h
    have h2 := List.mem_of_find?_eq_some h
    rw [hP f' h2 f hf (by simpa using h1)]
theorem mh_at {g : gT} {P : Nat → Nat} {σ : sT} (hP : mok P) {f : Nat} (hf : f ∈ mfs) : mheap g P σ (P f) = some (mcell g P σ f) := by
  unfold mheap
  rw [mh_find hP hf]
  rfl
theorem mh_up {g : gT} {P : Nat → Nat} {σ σ' : sT} {e : va_E} (hP : mok P) {f : Nat} (hf : f ∈ mfs) (he : mcell g P σ' f = e) (ho : ∀ f' ∈ mfs, f' ≠ f → mcell g P σ f' = mcell g P σ' f') : f_up (mheap g P σ) (P f) e = mheap g P σ' := by
  funext q
  by_cases h : q = P f
  · subst h
    rw [f_up_s, mh_at hP hf, he]
  · rw [f_up_n h]
    unfold mheap
    cases h2 : mfs.find? (fun f' => P f' == q) with
    | none => rfl
    | some f' =>
      have h3 := List.find?_some h2
      have h4 : P f' = q := by simpa using h3
      have h5 : f' ≠ f := fun z => h (by rw [← h4, z])
      show some _ = some _
      rw [ho f' (List.mem_of_find?_eq_some h2) h5]
theorem mh_0 {g : gT} {P : Nat → Nat} {σ : sT} (hP : mok P) : mheap g P σ (P 0) = some (.inr (8, mobj P σ)) := mh_at hP (by decide)
theorem mh_1 {g : gT} {P : Nat → Nat} {σ : sT} (hP : mok P) : mheap g P σ (P 1) = some (iar (g.2.1 0) 8 (σ 1)) := mh_at hP (by decide)
theorem mu_1 {g : gT} {P : Nat → Nat} {σ : sT} (hP : mok P) (z v : Int) : f_up (mheap g P σ) (P 1) (iar (g.2.1 0) 8 (iup (σ 1) z v)) = mheap g P (su σ 1 z v) := mh_up hP (by decide) rfl (fun f hf hn => by simp only [mfs, List.mem_cons, List.not_mem_nil, or_false] at hf; rcases hf with rfl | rfl | rfl | rfl | rfl | rfl | rfl | rfl | rfl | rfl | rfl | rfl | rfl | rfl | rfl | rfl | rfl | rfl <;> first | rfl | exact absurd rfl hn)
theorem mh_2 {g : gT} {P : Nat → Nat} {σ : sT} (hP : mok P) : mheap g P σ (P 2) = some (iar (g.2.1 0) 8 (σ 2)) := mh_at hP (by decide)
theorem mu_2 {g : gT} {P : Nat → Nat} {σ : sT} (hP : mok P) (z v : Int) : f_up (mheap g P σ) (P 2) (iar (g.2.1 0) 8 (iup (σ 2) z v)) = mheap g P (su σ 2 z v) := mh_up hP (by decide) rfl (fun f hf hn => by simp only [mfs, List.mem_cons, List.not_mem_nil, or_false] at hf; rcases hf with rfl | rfl | rfl | rfl | rfl | rfl | rfl | rfl | rfl | rfl | rfl | rfl | rfl | rfl | rfl | rfl | rfl | rfl <;> first | rfl | exact absurd rfl hn)
theorem mh_3 {g : gT} {P : Nat → Nat} {σ : sT} (hP : mok P) : mheap g P σ (P 3) = some (iar (g.2.1 0) 8 (σ 3)) := mh_at hP (by decide)
theorem mu_3 {g : gT} {P : Nat → Nat} {σ : sT} (hP : mok P) (z v : Int) : f_up (mheap g P σ) (P 3) (iar (g.2.1 0) 8 (iup (σ 3) z v)) = mheap g P (su σ 3 z v) := mh_up hP (by decide) rfl (fun f hf hn => by simp only [mfs, List.mem_cons, List.not_mem_nil, or_false] at hf; rcases hf with rfl | rfl | rfl | rfl | rfl | rfl | rfl | rfl | rfl | rfl | rfl | rfl | rfl | rfl | rfl | rfl | rfl | rfl <;> first | rfl | exact absurd rfl hn)
theorem mh_4 {g : gT} {P : Nat → Nat} {σ : sT} (hP : mok P) : mheap g P σ (P 4) = some (iar (g.2.1 0) 8 (σ 4)) := mh_at hP (by decide)
theorem mu_4 {g : gT} {P : Nat → Nat} {σ : sT} (hP : mok P) (z v : Int) : f_up (mheap g P σ) (P 4) (iar (g.2.1 0) 8 (iup (σ 4) z v)) = mheap g P (su σ 4 z v) := mh_up hP (by decide) rfl (fun f hf hn => by simp only [mfs, List.mem_cons, List.not_mem_nil, or_false] at hf; rcases hf with rfl | rfl | rfl | rfl | rfl | rfl | rfl | rfl | rfl | rfl | rfl | rfl | rfl | rfl | rfl | rfl | rfl | rfl <;> first | rfl | exact absurd rfl hn)
theorem mh_6 {g : gT} {P : Nat → Nat} {σ : sT} (hP : mok P) : mheap g P σ (P 6) = some (iar (g.2.1 0) 4 (σ 6)) := mh_at hP (by decide)
theorem mu_6 {g : gT} {P : Nat → Nat} {σ : sT} (hP : mok P) (z v : Int) : f_up (mheap g P σ) (P 6) (iar (g.2.1 0) 4 (iup (σ 6) z v)) = mheap g P (su σ 6 z v) := mh_up hP (by decide) rfl (fun f hf hn => by simp only [mfs, List.mem_cons, List.not_mem_nil, or_false] at hf; rcases hf with rfl | rfl | rfl | rfl | rfl | rfl | rfl | rfl | rfl | rfl | rfl | rfl | rfl | rfl | rfl | rfl | rfl | rfl <;> first | rfl | exact absurd rfl hn)
theorem mh_7 {g : gT} {P : Nat → Nat} {σ : sT} (hP : mok P) : mheap g P σ (P 7) = some (iar (g.2.1 0) 4 (σ 7)) := mh_at hP (by decide)
theorem mu_7 {g : gT} {P : Nat → Nat} {σ : sT} (hP : mok P) (z v : Int) : f_up (mheap g P σ) (P 7) (iar (g.2.1 0) 4 (iup (σ 7) z v)) = mheap g P (su σ 7 z v) := mh_up hP (by decide) rfl (fun f hf hn => by simp only [mfs, List.mem_cons, List.not_mem_nil, or_false] at hf; rcases hf with rfl | rfl | rfl | rfl | rfl | rfl | rfl | rfl | rfl | rfl | rfl | rfl | rfl | rfl | rfl | rfl | rfl | rfl <;> first | rfl | exact absurd rfl hn)
theorem mh_8 {g : gT} {P : Nat → Nat} {σ : sT} (hP : mok P) : mheap g P σ (P 8) = some (iar (g.2.1 0) 2 (σ 8)) := mh_at hP (by decide)
theorem mu_8 {g : gT} {P : Nat → Nat} {σ : sT} (hP : mok P) (z v : Int) : f_up (mheap g P σ) (P 8) (iar (g.2.1 0) 2 (iup (σ 8) z v)) = mheap g P (su σ 8 z v) := mh_up hP (by decide) rfl (fun f hf hn => by simp only [mfs, List.mem_cons, List.not_mem_nil, or_false] at hf; rcases hf with rfl | rfl | rfl | rfl | rfl | rfl | rfl | rfl | rfl | rfl | rfl | rfl | rfl | rfl | rfl | rfl | rfl | rfl <;> first | rfl | exact absurd rfl hn)
theorem mh_9 {g : gT} {P : Nat → Nat} {σ : sT} (hP : mok P) : mheap g P σ (P 9) = some (iar (g.2.1 1) 2 (σ 9)) := mh_at hP (by decide)
theorem mu_9 {g : gT} {P : Nat → Nat} {σ : sT} (hP : mok P) (z v : Int) : f_up (mheap g P σ) (P 9) (iar (g.2.1 1) 2 (iup (σ 9) z v)) = mheap g P (su σ 9 z v) := mh_up hP (by decide) rfl (fun f hf hn => by simp only [mfs, List.mem_cons, List.not_mem_nil, or_false] at hf; rcases hf with rfl | rfl | rfl | rfl | rfl | rfl | rfl | rfl | rfl | rfl | rfl | rfl | rfl | rfl | rfl | rfl | rfl | rfl <;> first | rfl | exact absurd rfl hn)
theorem mh_10 {g : gT} {P : Nat → Nat} {σ : sT} (hP : mok P) : mheap g P σ (P 10) = some (iar (g.2.1 0) 60 (σ 10)) := mh_at hP (by decide)
theorem mu_10 {g : gT} {P : Nat → Nat} {σ : sT} (hP : mok P) (z v : Int) : f_up (mheap g P σ) (P 10) (iar (g.2.1 0) 60 (iup (σ 10) z v)) = mheap g P (su σ 10 z v) := mh_up hP (by decide) rfl (fun f hf hn => by simp only [mfs, List.mem_cons, List.not_mem_nil, or_false] at hf; rcases hf with rfl | rfl | rfl | rfl | rfl | rfl | rfl | rfl | rfl | rfl | rfl | rfl | rfl | rfl | rfl | rfl | rfl | rfl <;> first | rfl | exact absurd rfl hn)
theorem mh_11 {g : gT} {P : Nat → Nat} {σ : sT} (hP : mok P) : mheap g P σ (P 11) = some (iar (g.2.1 0) 60 (σ 11)) := mh_at hP (by decide)
theorem mu_11 {g : gT} {P : Nat → Nat} {σ : sT} (hP : mok P) (z v : Int) : f_up (mheap g P σ) (P 11) (iar (g.2.1 0) 60 (iup (σ 11) z v)) = mheap g P (su σ 11 z v) := mh_up hP (by decide) rfl (fun f hf hn => by simp only [mfs, List.mem_cons, List.not_mem_nil, or_false] at hf; rcases hf with rfl | rfl | rfl | rfl | rfl | rfl | rfl | rfl | rfl | rfl | rfl | rfl | rfl | rfl | rfl | rfl | rfl | rfl <;> first | rfl | exact absurd rfl hn)
theorem mh_12 {g : gT} {P : Nat → Nat} {σ : sT} (hP : mok P) : mheap g P σ (P 12) = some (iar (g.2.1 0) 60 (σ 12)) := mh_at hP (by decide)
theorem mu_12 {g : gT} {P : Nat → Nat} {σ : sT} (hP : mok P) (z v : Int) : f_up (mheap g P σ) (P 12) (iar (g.2.1 0) 60 (iup (σ 12) z v)) = mheap g P (su σ 12 z v) := mh_up hP (by decide) rfl (fun f hf hn => by simp only [mfs, List.mem_cons, List.not_mem_nil, or_false] at hf; rcases hf with rfl | rfl | rfl | rfl | rfl | rfl | rfl | rfl | rfl | rfl | rfl | rfl | rfl | rfl | rfl | rfl | rfl | rfl <;> first | rfl | exact absurd rfl hn)
theorem mh_13 {g : gT} {P : Nat → Nat} {σ : sT} (hP : mok P) : mheap g P σ (P 13) = some (iar (g.2.1 0) 60 (σ 13)) := mh_at hP (by decide)
theorem mu_13 {g : gT} {P : Nat → Nat} {σ : sT} (hP : mok P) (z v : Int) : f_up (mheap g P σ) (P 13) (iar (g.2.1 0) 60 (iup (σ 13) z v)) = mheap g P (su σ 13 z v) := mh_up hP (by decide) rfl (fun f hf hn => by simp only [mfs, List.mem_cons, List.not_mem_nil, or_false] at hf; rcases hf with rfl | rfl | rfl | rfl | rfl | rfl | rfl | rfl | rfl | rfl | rfl | rfl | rfl | rfl | rfl | rfl | rfl | rfl <;> first | rfl | exact absurd rfl hn)
theorem mh_14 {g : gT} {P : Nat → Nat} {σ : sT} (hP : mok P) : mheap g P σ (P 14) = some (iar (g.2.1 0) 60 (σ 14)) := mh_at hP (by decide)
theorem mu_14 {g : gT} {P : Nat → Nat} {σ : sT} (hP : mok P) (z v : Int) : f_up (mheap g P σ) (P 14) (iar (g.2.1 0) 60 (iup (σ 14) z v)) = mheap g P (su σ 14 z v) := mh_up hP (by decide) rfl (fun f hf hn => by simp only [mfs, List.mem_cons, List.not_mem_nil, or_false] at hf; rcases hf with rfl | rfl | rfl | rfl | rfl | rfl | rfl | rfl | rfl | rfl | rfl | rfl | rfl | rfl | rfl | rfl | rfl | rfl <;> first | rfl | exact absurd rfl hn)
theorem mh_15 {g : gT} {P : Nat → Nat} {σ : sT} (hP : mok P) : mheap g P σ (P 15) = some (iar (g.2.1 0) 60 (σ 15)) := mh_at hP (by decide)
theorem mu_15 {g : gT} {P : Nat → Nat} {σ : sT} (hP : mok P) (z v : Int) : f_up (mheap g P σ) (P 15) (iar (g.2.1 0) 60 (iup (σ 15) z v)) = mheap g P (su σ 15 z v) := mh_up hP (by decide) rfl (fun f hf hn => by simp only [mfs, List.mem_cons, List.not_mem_nil, or_false] at hf; rcases hf with rfl | rfl | rfl | rfl | rfl | rfl | rfl | rfl | rfl | rfl | rfl | rfl | rfl | rfl | rfl | rfl | rfl | rfl <;> first | rfl | exact absurd rfl hn)
theorem mh_16 {g : gT} {P : Nat → Nat} {σ : sT} (hP : mok P) : mheap g P σ (P 16) = some (iar (g.2.1 0) 60 (σ 16)) := mh_at hP (by decide)
theorem mu_16 {g : gT} {P : Nat → Nat} {σ : sT} (hP : mok P) (z v : Int) : f_up (mheap g P σ) (P 16) (iar (g.2.1 0) 60 (iup (σ 16) z v)) = mheap g P (su σ 16 z v) := mh_up hP (by decide) rfl (fun f hf hn => by simp only [mfs, List.mem_cons, List.not_mem_nil, or_false] at hf; rcases hf with rfl | rfl | rfl | rfl | rfl | rfl | rfl | rfl | rfl | rfl | rfl | rfl | rfl | rfl | rfl | rfl | rfl | rfl <;> first | rfl | exact absurd rfl hn)
theorem mh_19 {g : gT} {P : Nat → Nat} {σ : sT} (hP : mok P) : mheap g P σ (P 19) = some (iar (g.2.1 0) 60 (σ 19)) := mh_at hP (by decide)
theorem mu_19 {g : gT} {P : Nat → Nat} {σ : sT} (hP : mok P) (z v : Int) : f_up (mheap g P σ) (P 19) (iar (g.2.1 0) 60 (iup (σ 19) z v)) = mheap g P (su σ 19 z v) := mh_up hP (by decide) rfl (fun f hf hn => by simp only [mfs, List.mem_cons, List.not_mem_nil, or_false] at hf; rcases hf with rfl | rfl | rfl | rfl | rfl | rfl | rfl | rfl | rfl | rfl | rfl | rfl | rfl | rfl | rfl | rfl | rfl | rfl <;> first | rfl | exact absurd rfl hn)
theorem mh_20 {g : gT} {P : Nat → Nat} {σ : sT} (hP : mok P) : mheap g P σ (P 20) = some (iar (g.2.1 0) 60 (σ 20)) := mh_at hP (by decide)
theorem mu_20 {g : gT} {P : Nat → Nat} {σ : sT} (hP : mok P) (z v : Int) : f_up (mheap g P σ) (P 20) (iar (g.2.1 0) 60 (iup (σ 20) z v)) = mheap g P (su σ 20 z v) := mh_up hP (by decide) rfl (fun f hf hn => by simp only [mfs, List.mem_cons, List.not_mem_nil, or_false] at hf; rcases hf with rfl | rfl | rfl | rfl | rfl | rfl | rfl | rfl | rfl | rfl | rfl | rfl | rfl | rfl | rfl | rfl | rfl | rfl <;> first | rfl | exact absurd rfl hn)
theorem mu_0 {g : gT} {P : Nat → Nat} {σ : sT} (hP : mok P) (v : Int) : f_up (mheap g P σ) (P 0) (.inr (8, (mobj P σ).set 0 (.int (iI v)))) = mheap g P (su σ 0 0 v) := mh_up hP (by decide) rfl (fun f hf hn => by simp only [mfs, List.mem_cons, List.not_mem_nil, or_false] at hf; rcases hf with rfl | rfl | rfl | rfl | rfl | rfl | rfl | rfl | rfl | rfl | rfl | rfl | rfl | rfl | rfl | rfl | rfl | rfl <;> first | rfl | exact absurd rfl hn)
theorem mu_5 {g : gT} {P : Nat → Nat} {σ : sT} (hP : mok P) (v : Int) : f_up (mheap g P σ) (P 0) (.inr (8, (mobj P σ).set 5 (.int (iI v)))) = mheap g P (su σ 5 0 v) := mh_up hP (by decide) rfl (fun f hf hn => by simp only [mfs, List.mem_cons, List.not_mem_nil, or_false] at hf; rcases hf with rfl | rfl | rfl | rfl | rfl | rfl | rfl | rfl | rfl | rfl | rfl | rfl | rfl | rfl | rfl | rfl | rfl | rfl <;> first | rfl | exact absurd rfl hn)
theorem mu_17 {g : gT} {P : Nat → Nat} {σ : sT} (hP : mok P) (v : Int) : f_up (mheap g P σ) (P 0) (.inr (8, (mobj P σ).set 17 (.int (iI v)))) = mheap g P (su σ 17 0 v) := mh_up hP (by decide) rfl (fun f hf hn => by simp only [mfs, List.mem_cons, List.not_mem_nil, or_false] at hf; rcases hf with rfl | rfl | rfl | rfl | rfl | rfl | rfl | rfl | rfl | rfl | rfl | rfl | rfl | rfl | rfl | rfl | rfl | rfl <;> first | rfl | exact absurd rfl hn)
theorem mu_18 {g : gT} {P : Nat → Nat} {σ : sT} (hP : mok P) (v : Int) : f_up (mheap g P σ) (P 0) (.inr (8, (mobj P σ).set 18 (.int (iI v)))) = mheap g P (su σ 18 0 v) := mh_up hP (by decide) rfl (fun f hf hn => by simp only [mfs, List.mem_cons, List.not_mem_nil, or_false] at hf; rcases hf with rfl | rfl | rfl | rfl | rfl | rfl | rfl | rfl | rfl | rfl | rfl | rfl | rfl | rfl | rfl | rfl | rfl | rfl <;> first | rfl | exact absurd rfl hn)
