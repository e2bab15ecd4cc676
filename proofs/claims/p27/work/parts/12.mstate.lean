/-! ===== the reference's heap ===== -/
abbrev sT : Type := Nat → Int → Int
def su (σ : sT) (f : Nat) (z v : Int) : sT := fun f' => if f' = f then iup (σ f) z v else σ f'
theorem su_s (σ : sT) (f : Nat) (z v : Int) : su σ f z v f = iup (σ f) z v := if_pos rfl
theorem su_n {σ : sT} {f f' : Nat} {z v : Int} (h : f' ≠ f) : su σ f z v f' = σ f' := if_neg h
