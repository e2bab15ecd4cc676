theorem nb_of {h h1 : fH} {A0 q : Nat} (hf : ∀ z x, z ≠ A0 → h z = some x → h1 z = some x) (hn : q ≠ A0) (nq : h1 q = none) : h q = none := by
  cases hq : h q with
  | none => rfl
  | some x =>
    have := hf q x hn hq
    rw [nq] at this
    cases this
def σ0 : sT := fun f => if f = 6 ∨ f = 7 then iup (iup (iup (iup (fun _ => 0) 0 10000) 1 10000) 2 10000) 3 10000 else if f = 8 then iup (iup (fun _ => 0) 0 20000) 1 20000 else fun _ => 0
