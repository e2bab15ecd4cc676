/-! ===== the class: new objects, longer lists ===== -/
def kup (K : Nat → Nat) (q v : Nat) : Nat → Nat := fun a => if a = q then v else K a
theorem kup_s (K : Nat → Nat) (q v : Nat) : kup K q v q = v := if_pos rfl
theorem kup_n {K : Nat → Nat} {q v a : Nat} (h : a ≠ q) : kup K q v a = K a := if_neg h
def rup (r : Nat → Int → Option Nat) (i : Nat) (r1 : Int → Option Nat) : Nat → Int → Option Nat := fun j => if j = i then r1 else r j
theorem rup_s (r : Nat → Int → Option Nat) (i : Nat) (r1 : Int → Option Nat) : rup r i r1 i = r1 := if_pos rfl
theorem rup_n {r : Nat → Int → Option Nat} {i j : Nat} {r1 : Int → Option Nat} (h : j ≠ i) : rup r i r1 j = r j := if_neg h
theorem su_ne {τ : sT} {f f' : Nat} {z v a : Int} (h : a ≠ z) : su τ f z v f' a = τ f' a := by
  by_cases e : f' = f
  · subst e; rw [su_s]; exact iup_n h
  · rw [su_n e]
def smo (τ : sT) (q : Nat) (n s p w c : Int) : sT := su (su (su (su (su (su (su τ 30 q n) 31 q s) 32 q p) 33 q w) 34 q c) 35 q (-1)) 36 q (-1)
def sro (τ : sT) (q : Nat) (a b c d : Int) : sT := su (su (su (su τ 40 q a) 41 q b) 42 q c) 43 q d
theorem smo_ne {τ : sT} {q a : Nat} {n s p w c : Int} {f : Nat} (h : a ≠ q) : smo τ q n s p w c f a = τ f a := by
  unfold smo
  rw [su_ne (by omega), su_ne (by omega), su_ne (by omega), su_ne (by omega), su_ne (by omega), su_ne (by omega), su_ne (by omega)]
theorem sro_ne {τ : sT} {q x : Nat} {a b c d : Int} {f : Nat} (h : x ≠ q) : sro τ q a b c d f x = τ f x := by
  unfold sro
  rw [su_ne (by omega), su_ne (by omega), su_ne (by omega), su_ne (by omega)]
theorem smo_lo {τ : sT} {q : Nat} {n s p w c : Int} {f : Nat} (h : f < 30 ∨ 36 < f) : smo τ q n s p w c f = τ f := by
  unfold smo
  rw [su_n (by omega), su_n (by omega), su_n (by omega), su_n (by omega), su_n (by omega), su_n (by omega), su_n (by omega)]
theorem sro_lo {τ : sT} {q : Nat} {a b c d : Int} {f : Nat} (h : f < 40 ∨ 43 < f) : sro τ q a b c d f = τ f := by
  unfold sro
  rw [su_n (by omega), su_n (by omega), su_n (by omega), su_n (by omega)]
section CM3
variable {l : Launch} {g : gT} {P K : Nat → Nat} {r : Nat → Int → Option Nat} {cp : Nat → Nat} {b b' : Nat} {τ : sT}
theorem ch_fresh (hk : cok P K cp) {q : Nat} (hq : cheap g P K r cp b b' τ q = none) : (∀ f, f < 26 → clive cp f = true → P f ≠ q) ∧ K q ≠ 1 ∧ K q ≠ 2 := by
  refine ⟨fun f hf hl z => ?_, fun z => ?_, fun z => ?_⟩
  · rw [← z, ch_at hk hf hl] at hq; cases hq
  · rw [ch_m hk z] at hq; cases hq
  · rw [ch_r hk z] at hq; cases hq
theorem cok.new (hk : cok P K cp) {q v : Nat} (hq : ∀ f, f < 26 → clive cp f = true → P f ≠ q) : cok P (kup K q v) cp :=
  ⟨hk.1, fun f hf hl => by rw [kup_n (hq f (List.mem_range.mp hf) hl)]; exact hk.2 f hf hl⟩
theorem ch_newm (hk : cok P K cp) {q : Nat} (hq : cheap g P K r cp b b' τ q = none) (n s p w c : Int) : cok P (kup K q 1) cp ∧ f_up (cheap g P K r cp b b' τ) q (.inr (4, [.int (iI n), .int (iI s), .int (iI p), .int (iI w), .int (iI c), .int (iI (-1)), .int (iI (-1))])) = cheap g P (kup K q 1) r cp b b' (smo τ q n s p w c) := by
  have hf := ch_fresh hk hq
  have hk2 : cok P (kup K q 1) cp := hk.new hf.1
  refine ⟨hk2, ?_⟩
  funext a
  by_cases h : a = q
  · subst h
    rw [f_up_s, ch_m hk2 (kup_s _ _ _)]
    have e : cmo (smo τ a n s p w c) a = [.int (iI n), .int (iI s), .int (iI p), .int (iI w), .int (iI c), .int (iI (-1)), .int (iI (-1))] := by
      unfold cmo
      rw [show smo τ a n s p w c 30 (a : Int) = n from iup_s _ _ _, show smo τ a n s p w c 31 (a : Int) = s from iup_s _ _ _, show smo τ a n s p w c 32 (a : Int) = p from iup_s _ _ _, show smo τ a n s p w c 33 (a : Int) = w from iup_s _ _ _, show smo τ a n s p w c 34 (a : Int) = c from iup_s _ _ _, show smo τ a n s p w c 35 (a : Int) = -1 from iup_s _ _ _, show smo τ a n s p w c 36 (a : Int) = -1 from iup_s _ _ _]
    rw [e]
  · rw [f_up_n h]
    unfold cheap
    cases h2 : cks.find? (fun f => clive cp f && P f == a) with
    | none =>
      show kcell τ (K a) a = kcell (smo τ q n s p w c) (kup K q 1 a) a
      rw [kup_n h]
      unfold kcell cmo cro
      simp only [smo_ne h]
    | some f =>
      show some _ = some _
      rw [(c_all (p := fun f => ccell g P r cp b b' τ f = ccell g P r cp b b' (smo τ q n s p w c) f) ⟨rfl, rfl, rfl, rfl, rfl, rfl, rfl, rfl, rfl, rfl, rfl, rfl, rfl, rfl, rfl, rfl, rfl, rfl, rfl, rfl, rfl, rfl, rfl, rfl, rfl, rfl⟩) f (List.mem_range.mp (List.mem_of_find?_eq_some h2))]
theorem ch_newr (hk : cok P K cp) {q : Nat} (hq : cheap g P K r cp b b' τ q = none) (w s x y : Int) : cok P (kup K q 2) cp ∧ f_up (cheap g P K r cp b b' τ) q (.inr (5, [.int (iI w), .int (iI s), .int (iI x), .int (iI y)])) = cheap g P (kup K q 2) r cp b b' (sro τ q w s x y) := by
  have hf := ch_fresh hk hq
  have hk2 : cok P (kup K q 2) cp := hk.new hf.1
  refine ⟨hk2, ?_⟩
  funext a
  by_cases h : a = q
  · subst h
    rw [f_up_s, ch_r hk2 (kup_s _ _ _)]
    have e : cro (sro τ a w s x y) a = [.int (iI w), .int (iI s), .int (iI x), .int (iI y)] := by
      unfold cro
      rw [show sro τ a w s x y 40 (a : Int) = w from iup_s _ _ _, show sro τ a w s x y 41 (a : Int) = s from iup_s _ _ _, show sro τ a w s x y 42 (a : Int) = x from iup_s _ _ _, show sro τ a w s x y 43 (a : Int) = y from iup_s _ _ _]
    rw [e]
  · rw [f_up_n h]
    unfold cheap
    cases h2 : cks.find? (fun f => clive cp f && P f == a) with
    | none =>
      show kcell τ (K a) a = kcell (sro τ q w s x y) (kup K q 2 a) a
      rw [kup_n h]
      unfold kcell cmo cro
      simp only [sro_ne h]
    | some f =>
      show some _ = some _
      rw [(c_all (p := fun f => ccell g P r cp b b' τ f = ccell g P r cp b b' (sro τ q w s x y) f) ⟨rfl, rfl, rfl, rfl, rfl, rfl, rfl, rfl, rfl, rfl, rfl, rfl, rfl, rfl, rfl, rfl, rfl, rfl, rfl, rfl, rfl, rfl, rfl, rfl, rfl, rfl⟩) f (List.mem_range.mp (List.mem_of_find?_eq_some h2))]
/-- what no cell shows doesn't matter -/
def cAg (K : Nat → Nat) (τ τ' : sT) : Prop := (∀ f, f < 30 → τ f = τ' f) ∧ (∀ f, 43 < f → τ f = τ' f) ∧ ∀ q : Nat, K q = 1 ∨ K q = 2 → ∀ f, τ f q = τ' f q
theorem cAg.eq {τ' : sT} (h : cAg K τ τ') : cheap g P K r cp b b' τ = cheap g P K r cp b b' τ' := by
  funext a
  unfold cheap
  cases h2 : cks.find? (fun f => clive cp f && P f == a) with
  | none =>
    show kcell τ (K a) a = kcell τ' (K a) a
    unfold kcell
    by_cases k1 : K a = 1
    · rw [if_pos k1, if_pos k1]
      unfold cmo
      simp only [h.2.2 a (Or.inl k1)]
    · rw [if_neg k1, if_neg k1]
      by_cases k2 : K a = 2
      · rw [if_pos k2, if_pos k2]
        unfold cro
        simp only [h.2.2 a (Or.inr k2)]
      · rw [if_neg k2, if_neg k2]
  | some f =>
    show some _ = some _
    have e : ccell g P r cp b b' τ f = ccell g P r cp b b' τ' f := by
      have q : ∀ j, j < 30 ∨ 43 < j → τ j = τ' j := fun j hj => hj.elim (h.1 j) (h.2.1 j)
      have hc : ∀ i, clst g P cp τ i = clst g P cp τ' i := fun i => by unfold clst; rw [q (50 + i) (by omega), q (53 + i) (by omega)]
      have hco : cobj P b b' τ = cobj P b b' τ' := by unfold cobj; rw [q 0 (by omega)]
      exact (c_all (p := fun f => ccell g P r cp b b' τ f = ccell g P r cp b b' τ' f) ⟨congrArg (fun x => (Sum.inr (7, x) : va_E)) hco, rfl, congrArg (fun F => (iar (g.2.1 1) 2 F : va_E)) (q 2 (by omega)), congrArg (fun x => (Sum.inr (2, x) : va_E)) (hc 0), congrArg (fun x => (Sum.inr (2, x) : va_E)) (hc 1), rfl, congrArg (fun F => (iar (g.2.1 0) 160 F : va_E)) (q 6 (by omega)), congrArg (fun F => (iar (g.2.1 0) 8 F : va_E)) (q 7 (by omega)), congrArg (fun F => (iar (g.2.1 0) 8 F : va_E)) (q 8 (by omega)), rfl, congrArg (fun F => (iar (g.2.1 0) 8 F : va_E)) (q 10 (by omega)), congrArg (fun F => (iar (g.2.1 0) 8 F : va_E)) (q 11 (by omega)), rfl, congrArg (fun F => (iar (g.2.1 0) 160 F : va_E)) (q 13 (by omega)), congrArg (fun F => (iar (g.2.1 0) 8 F : va_E)) (q 14 (by omega)), congrArg (fun F => (iar (g.2.1 0) 8 F : va_E)) (q 15 (by omega)), rfl, congrArg (fun F => (iar (g.2.1 0) 8 F : va_E)) (q 17 (by omega)), congrArg (fun F => (iar (g.2.1 0) 8 F : va_E)) (q 18 (by omega)), congrArg (fun x => (Sum.inr (2, x) : va_E)) (hc 2), congrArg (fun F => (iar (g.2.1 0) 4 F : va_E)) (q 20 (by omega)), congrArg (fun F => (iar (g.2.1 0) 4 F : va_E)) (q 21 (by omega)), congrArg (fun F => (iar (g.2.1 0) 2 F : va_E)) (q 22 (by omega)), rfl, rfl, rfl⟩) f (List.mem_range.mp (List.mem_of_find?_eq_some h2))
    rw [e]
/-- an object that nobody knows of any more -/
theorem ch_drop {q v : Nat} (hk : cok P (kup K q v) cp) (hv : v = 1 ∨ v = 2) (hK : K q ≠ 1 ∧ K q ≠ 2) : ∀ a e, cheap g P K r cp b b' τ a = some e → cheap g P (kup K q v) r cp b b' τ a = some e := by
  intro a e he
  by_cases h : a = q
  · subst h
    exfalso
    unfold cheap at he
    rw [ch_none hk (q := a) (by rw [kup_s]; exact hv)] at he
    replace he : kcell τ (K a) a = some e := he
    unfold kcell at he
    rw [if_neg hK.1, if_neg hK.2] at he
    cases he
  · unfold cheap at he ⊢
    rw [kup_n h]
    exact he
theorem clive_up {i f v : Nat} (h : f ≠ 23 + i) : clive (kup cp i v) f = clive cp f := by
  unfold clive
  by_cases h1 : f < 23
  · simp [h1]
  · rw [kup_n (by omega)]
theorem ed_live {i : Nat} (h : cp i ≠ 0) : edv g P cp i = P (23 + i) := if_neg h

theorem kl_upd0 (hk : cok P K cp) (hb : b < 23) (hb' : b' < 23) {h' : fH} {ed' cap' : Nat} {mc n : Int} {r1 : Int → Option Nat} (hh : h' = f_up (f_up (cheap g P K r cp b b' τ) ed' (qar (g.2.1 2) cap' r1)) (P 3) (.inr (2, [.int (iI mc), .ref ed', .int (iI n)])))
    (hor : (ed' = edv g P cp 0 ∧ cap' = cp 0 ∧ cp 0 ≠ 0) ∨ cheap g P K r cp b b' τ ed' = none) (hc : cap' ≠ 0) : cok (kup P 23 ed') K (kup cp 0 cap') ∧ ∀ a e, cheap g (kup P 23 ed') K (rup r 0 r1) (kup cp 0 cap') b b' (su (su τ 50 0 mc) 53 0 n) a = some e → h' a = some e := by
  subst hh
  have hne : ∀ f, f < 26 → f ≠ 23 → clive cp f = true → P f ≠ ed' := by
    intro f hf hn hl z
    rcases hor with ⟨e1, -, e3⟩ | e1
    · rw [e1, ed_live e3] at z
      exact hn (hk.1 f (List.mem_range.mpr hf) hl 23 (by decide) (clv2 (i := 0) e3) z)
    · exact (ch_fresh hk e1).1 f hf hl z
  have hKe : K ed' ≠ 1 ∧ K ed' ≠ 2 := by
    rcases hor with ⟨e1, -, e3⟩ | e1
    · rw [e1, ed_live e3]
      exact hk.2 23 (by decide) (clv2 (i := 0) e3)
    · exact (ch_fresh hk e1).2
  have hlv : ∀ f, f ≠ 23 → clive (kup cp 0 cap') f = clive cp f := fun f h => clive_up (i := 0) h
  have hk2 : cok (kup P 23 ed') K (kup cp 0 cap') := by
    refine ⟨fun f hf hl f' hf' hl' z => ?_, fun f hf hl => ?_⟩
    · by_cases q1 : f = 23
      · by_cases q2 : f' = 23
        · omega
        · rw [hlv f' q2] at hl'
          rw [q1, kup_s, kup_n q2] at z
          exact absurd z.symm (hne f' (List.mem_range.mp hf') q2 hl')
      · rw [hlv f q1] at hl
        by_cases q2 : f' = 23
        · rw [q2, kup_s, kup_n q1] at z
          exact absurd z (hne f (List.mem_range.mp hf) q1 hl)
        · rw [hlv f' q2] at hl'
          rw [kup_n q1, kup_n q2] at z
          exact hk.1 f hf hl f' hf' hl' z
    · by_cases q1 : f = 23
      · rw [q1, kup_s]; exact hKe
      · rw [hlv f q1] at hl
        rw [kup_n q1]; exact hk.2 f hf hl
  refine ⟨hk2, fun a e he => ?_⟩
  have hco : cobj (kup P 23 ed') b b' (su (su τ 50 0 mc) 53 0 n) = cobj P b b' τ := by
    unfold cobj
    rw [kup_n (K := P) (show b ≠ 23 by omega), kup_n (K := P) (show b' ≠ 23 by omega)]
    rfl
  have hL : clive cp 3 = true := clv (by decide)
  have heL : ed' ≠ P 3 := Ne.symm (hne 3 (by decide) (by decide) hL)
  unfold cheap at he
  cases h2 : cks.find? (fun f => clive (kup cp 0 cap') f && kup P 23 ed' f == a) with
  | some f =>
    have m1 := List.mem_of_find?_eq_some h2
    have m2 := List.find?_some h2
    rw [Bool.and_eq_true] at m2
    have m3 : kup P 23 ed' f = a := by simpa using m2.2
    rw [h2] at he
    replace he : ccell g (kup P 23 ed') (rup r 0 r1) (kup cp 0 cap') b b' (su (su τ 50 0 mc) 53 0 n) f = e := Option.some.inj he
    by_cases q1 : f = 23
    · subst q1
      rw [← m3, kup_s, ← he, f_up_n heL, f_up_s]
      rfl
    · rw [kup_n q1] at m3
      have hl2 : clive cp f = true := by rw [← hlv f q1]; exact m2.1
      by_cases q2 : f = 3
      · subst q2
        rw [← m3, ← he, f_up_s]
        show some _ = some (Sum.inr (2, clst g (kup P 23 ed') (kup cp 0 cap') (su (su τ 50 0 mc) 53 0 n) 0))
        unfold clst
        rw [ed_live (P := kup P 23 ed') (cp := kup cp 0 cap') (i := 0) (by rw [kup_s]; exact hc), show (23 + 0 : Nat) = 23 from rfl, kup_s]
        rfl
      · rw [← m3, f_up_n (fun z => q2 (hk.1 f m1 hl2 3 (by decide) hL z)), f_up_n (hne f (List.mem_range.mp m1) q1 hl2), ch_at hk (List.mem_range.mp m1) hl2, ← he]
        rw [(c_all (p := fun f => f ≠ 23 → f ≠ 3 → ccell g (kup P 23 ed') (rup r 0 r1) (kup cp 0 cap') b b' (su (su τ 50 0 mc) 53 0 n) f = ccell g P r cp b b' τ f) ⟨(fun _ _ => congrArg (fun x => (Sum.inr (7, x) : va_E)) hco), (fun _ _ => rfl), (fun _ _ => rfl), (fun _ h => absurd rfl h), (fun _ _ => rfl), (fun _ _ => rfl), (fun _ _ => rfl), (fun _ _ => rfl), (fun _ _ => rfl), (fun _ _ => rfl), (fun _ _ => rfl), (fun _ _ => rfl), (fun _ _ => rfl), (fun _ _ => rfl), (fun _ _ => rfl), (fun _ _ => rfl), (fun _ _ => rfl), (fun _ _ => rfl), (fun _ _ => rfl), (fun _ _ => rfl), (fun _ _ => rfl), (fun _ _ => rfl), (fun _ _ => rfl), (fun h _ => absurd rfl h), (fun _ _ => rfl), (fun _ _ => rfl)⟩) f (List.mem_range.mp m1) q1 q2]
  | none =>
    rw [h2] at he
    replace he : kcell τ (K a) a = some e := he
    have hKa : K a = 1 ∨ K a = 2 := by
      unfold kcell at he
      by_cases k1 : K a = 1
      · exact Or.inl k1
      · rw [if_neg k1] at he
        by_cases k2 : K a = 2
        · exact Or.inr k2
        · rw [if_neg k2] at he; cases he
    have n1 : a ≠ P 3 := fun z => by
      have := hk.2 3 (by decide) hL
      rw [← z] at this
      rcases hKa with q | q
      · exact this.1 q
      · exact this.2 q
    have n2 : a ≠ ed' := fun z => by
      rw [← z] at hKe
      rcases hKa with q | q
      · exact hKe.1 q
      · exact hKe.2 q
    rw [f_up_n n1, f_up_n n2]
    unfold cheap
    rw [ch_none hk hKa]
    exact he
theorem kl_upd1 (hk : cok P K cp) (hb : b < 23) (hb' : b' < 23) {h' : fH} {ed' cap' : Nat} {mc n : Int} {r1 : Int → Option Nat} (hh : h' = f_up (f_up (cheap g P K r cp b b' τ) ed' (qar (g.2.1 2) cap' r1)) (P 4) (.inr (2, [.int (iI mc), .ref ed', .int (iI n)])))
    (hor : (ed' = edv g P cp 1 ∧ cap' = cp 1 ∧ cp 1 ≠ 0) ∨ cheap g P K r cp b b' τ ed' = none) (hc : cap' ≠ 0) : cok (kup P 24 ed') K (kup cp 1 cap') ∧ ∀ a e, cheap g (kup P 24 ed') K (rup r 1 r1) (kup cp 1 cap') b b' (su (su τ 51 0 mc) 54 0 n) a = some e → h' a = some e := by
  subst hh
  have hne : ∀ f, f < 26 → f ≠ 24 → clive cp f = true → P f ≠ ed' := by
    intro f hf hn hl z
    rcases hor with ⟨e1, -, e3⟩ | e1
    · rw [e1, ed_live e3] at z
      exact hn (hk.1 f (List.mem_range.mpr hf) hl 24 (by decide) (clv2 (i := 1) e3) z)
    · exact (ch_fresh hk e1).1 f hf hl z
  have hKe : K ed' ≠ 1 ∧ K ed' ≠ 2 := by
    rcases hor with ⟨e1, -, e3⟩ | e1
    · rw [e1, ed_live e3]
      exact hk.2 24 (by decide) (clv2 (i := 1) e3)
    · exact (ch_fresh hk e1).2
  have hlv : ∀ f, f ≠ 24 → clive (kup cp 1 cap') f = clive cp f := fun f h => clive_up (i := 1) h
  have hk2 : cok (kup P 24 ed') K (kup cp 1 cap') := by
    refine ⟨fun f hf hl f' hf' hl' z => ?_, fun f hf hl => ?_⟩
    · by_cases q1 : f = 24
      · by_cases q2 : f' = 24
        · omega
        · rw [hlv f' q2] at hl'
          rw [q1, kup_s, kup_n q2] at z
          exact absurd z.symm (hne f' (List.mem_range.mp hf') q2 hl')
      · rw [hlv f q1] at hl
        by_cases q2 : f' = 24
        · rw [q2, kup_s, kup_n q1] at z
          exact absurd z (hne f (List.mem_range.mp hf) q1 hl)
        · rw [hlv f' q2] at hl'
          rw [kup_n q1, kup_n q2] at z
          exact hk.1 f hf hl f' hf' hl' z
    · by_cases q1 : f = 24
      · rw [q1, kup_s]; exact hKe
      · rw [hlv f q1] at hl
        rw [kup_n q1]; exact hk.2 f hf hl
  refine ⟨hk2, fun a e he => ?_⟩
  have hco : cobj (kup P 24 ed') b b' (su (su τ 51 0 mc) 54 0 n) = cobj P b b' τ := by
    unfold cobj
    rw [kup_n (K := P) (show b ≠ 24 by omega), kup_n (K := P) (show b' ≠ 24 by omega)]
    rfl
  have hL : clive cp 4 = true := clv (by decide)
  have heL : ed' ≠ P 4 := Ne.symm (hne 4 (by decide) (by decide) hL)
  unfold cheap at he
  cases h2 : cks.find? (fun f => clive (kup cp 1 cap') f && kup P 24 ed' f == a) with
  | some f =>
    have m1 := List.mem_of_find?_eq_some h2
    have m2 := List.find?_some h2
    rw [Bool.and_eq_true] at m2
    have m3 : kup P 24 ed' f = a := by simpa using m2.2
    rw [h2] at he
    replace he : ccell g (kup P 24 ed') (rup r 1 r1) (kup cp 1 cap') b b' (su (su τ 51 0 mc) 54 0 n) f = e := Option.some.inj he
    by_cases q1 : f = 24
    · subst q1
      rw [← m3, kup_s, ← he, f_up_n heL, f_up_s]
      rfl
    · rw [kup_n q1] at m3
      have hl2 : clive cp f = true := by rw [← hlv f q1]; exact m2.1
      by_cases q2 : f = 4
      · subst q2
        rw [← m3, ← he, f_up_s]
        show some _ = some (Sum.inr (2, clst g (kup P 24 ed') (kup cp 1 cap') (su (su τ 51 0 mc) 54 0 n) 1))
        unfold clst
        rw [ed_live (P := kup P 24 ed') (cp := kup cp 1 cap') (i := 1) (by rw [kup_s]; exact hc), show (23 + 1 : Nat) = 24 from rfl, kup_s]
        rfl
      · rw [← m3, f_up_n (fun z => q2 (hk.1 f m1 hl2 4 (by decide) hL z)), f_up_n (hne f (List.mem_range.mp m1) q1 hl2), ch_at hk (List.mem_range.mp m1) hl2, ← he]
        rw [(c_all (p := fun f => f ≠ 24 → f ≠ 4 → ccell g (kup P 24 ed') (rup r 1 r1) (kup cp 1 cap') b b' (su (su τ 51 0 mc) 54 0 n) f = ccell g P r cp b b' τ f) ⟨(fun _ _ => congrArg (fun x => (Sum.inr (7, x) : va_E)) hco), (fun _ _ => rfl), (fun _ _ => rfl), (fun _ _ => rfl), (fun _ h => absurd rfl h), (fun _ _ => rfl), (fun _ _ => rfl), (fun _ _ => rfl), (fun _ _ => rfl), (fun _ _ => rfl), (fun _ _ => rfl), (fun _ _ => rfl), (fun _ _ => rfl), (fun _ _ => rfl), (fun _ _ => rfl), (fun _ _ => rfl), (fun _ _ => rfl), (fun _ _ => rfl), (fun _ _ => rfl), (fun _ _ => rfl), (fun _ _ => rfl), (fun _ _ => rfl), (fun _ _ => rfl), (fun _ _ => rfl), (fun h _ => absurd rfl h), (fun _ _ => rfl)⟩) f (List.mem_range.mp m1) q1 q2]
  | none =>
    rw [h2] at he
    replace he : kcell τ (K a) a = some e := he
    have hKa : K a = 1 ∨ K a = 2 := by
      unfold kcell at he
      by_cases k1 : K a = 1
      · exact Or.inl k1
      · rw [if_neg k1] at he
        by_cases k2 : K a = 2
        · exact Or.inr k2
        · rw [if_neg k2] at he; cases he
    have n1 : a ≠ P 4 := fun z => by
      have := hk.2 4 (by decide) hL
      rw [← z] at this
      rcases hKa with q | q
      · exact this.1 q
      · exact this.2 q
    have n2 : a ≠ ed' := fun z => by
      rw [← z] at hKe
      rcases hKa with q | q
      · exact hKe.1 q
      · exact hKe.2 q
    rw [f_up_n n1, f_up_n n2]
    unfold cheap
    rw [ch_none hk hKa]
    exact he
theorem kl_upd2 (hk : cok P K cp) (hb : b < 23) (hb' : b' < 23) {h' : fH} {ed' cap' : Nat} {mc n : Int} {r1 : Int → Option Nat} (hh : h' = f_up (f_up (cheap g P K r cp b b' τ) ed' (qar (g.2.1 2) cap' r1)) (P 19) (.inr (2, [.int (iI mc), .ref ed', .int (iI n)])))
    (hor : (ed' = edv g P cp 2 ∧ cap' = cp 2 ∧ cp 2 ≠ 0) ∨ cheap g P K r cp b b' τ ed' = none) (hc : cap' ≠ 0) : cok (kup P 25 ed') K (kup cp 2 cap') ∧ ∀ a e, cheap g (kup P 25 ed') K (rup r 2 r1) (kup cp 2 cap') b b' (su (su τ 52 0 mc) 55 0 n) a = some e → h' a = some e := by
  subst hh
  have hne : ∀ f, f < 26 → f ≠ 25 → clive cp f = true → P f ≠ ed' := by
    intro f hf hn hl z
    rcases hor with ⟨e1, -, e3⟩ | e1
    · rw [e1, ed_live e3] at z
      exact hn (hk.1 f (List.mem_range.mpr hf) hl 25 (by decide) (clv2 (i := 2) e3) z)
    · exact (ch_fresh hk e1).1 f hf hl z
  have hKe : K ed' ≠ 1 ∧ K ed' ≠ 2 := by
    rcases hor with ⟨e1, -, e3⟩ | e1
    · rw [e1, ed_live e3]
      exact hk.2 25 (by decide) (clv2 (i := 2) e3)
    · exact (ch_fresh hk e1).2
  have hlv : ∀ f, f ≠ 25 → clive (kup cp 2 cap') f = clive cp f := fun f h => clive_up (i := 2) h
  have hk2 : cok (kup P 25 ed') K (kup cp 2 cap') := by
    refine ⟨fun f hf hl f' hf' hl' z => ?_, fun f hf hl => ?_⟩
    · by_cases q1 : f = 25
      · by_cases q2 : f' = 25
        · omega
        · rw [hlv f' q2] at hl'
          rw [q1, kup_s, kup_n q2] at z
          exact absurd z.symm (hne f' (List.mem_range.mp hf') q2 hl')
      · rw [hlv f q1] at hl
        by_cases q2 : f' = 25
        · rw [q2, kup_s, kup_n q1] at z
          exact absurd z (hne f (List.mem_range.mp hf) q1 hl)
        · rw [hlv f' q2] at hl'
          rw [kup_n q1, kup_n q2] at z
          exact hk.1 f hf hl f' hf' hl' z
    · by_cases q1 : f = 25
      · rw [q1, kup_s]; exact hKe
      · rw [hlv f q1] at hl
        rw [kup_n q1]; exact hk.2 f hf hl
  refine ⟨hk2, fun a e he => ?_⟩
  have hco : cobj (kup P 25 ed') b b' (su (su τ 52 0 mc) 55 0 n) = cobj P b b' τ := by
    unfold cobj
    rw [kup_n (K := P) (show b ≠ 25 by omega), kup_n (K := P) (show b' ≠ 25 by omega)]
    rfl
  have hL : clive cp 19 = true := clv (by decide)
  have heL : ed' ≠ P 19 := Ne.symm (hne 19 (by decide) (by decide) hL)
  unfold cheap at he
  cases h2 : cks.find? (fun f => clive (kup cp 2 cap') f && kup P 25 ed' f == a) with
  | some f =>
    have m1 := List.mem_of_find?_eq_some h2
    have m2 := List.find?_some h2
    rw [Bool.and_eq_true] at m2
    have m3 : kup P 25 ed' f = a := by simpa using m2.2
    rw [h2] at he
    replace he : ccell g (kup P 25 ed') (rup r 2 r1) (kup cp 2 cap') b b' (su (su τ 52 0 mc) 55 0 n) f = e := Option.some.inj he
    by_cases q1 : f = 25
    · subst q1
      rw [← m3, kup_s, ← he, f_up_n heL, f_up_s]
      rfl
    · rw [kup_n q1] at m3
      have hl2 : clive cp f = true := by rw [← hlv f q1]; exact m2.1
      by_cases q2 : f = 19
      · subst q2
        rw [← m3, ← he, f_up_s]
        show some _ = some (Sum.inr (2, clst g (kup P 25 ed') (kup cp 2 cap') (su (su τ 52 0 mc) 55 0 n) 2))
        unfold clst
        rw [ed_live (P := kup P 25 ed') (cp := kup cp 2 cap') (i := 2) (by rw [kup_s]; exact hc), show (23 + 2 : Nat) = 25 from rfl, kup_s]
        rfl
      · rw [← m3, f_up_n (fun z => q2 (hk.1 f m1 hl2 19 (by decide) hL z)), f_up_n (hne f (List.mem_range.mp m1) q1 hl2), ch_at hk (List.mem_range.mp m1) hl2, ← he]
        rw [(c_all (p := fun f => f ≠ 25 → f ≠ 19 → ccell g (kup P 25 ed') (rup r 2 r1) (kup cp 2 cap') b b' (su (su τ 52 0 mc) 55 0 n) f = ccell g P r cp b b' τ f) ⟨(fun _ _ => congrArg (fun x => (Sum.inr (7, x) : va_E)) hco), (fun _ _ => rfl), (fun _ _ => rfl), (fun _ _ => rfl), (fun _ _ => rfl), (fun _ _ => rfl), (fun _ _ => rfl), (fun _ _ => rfl), (fun _ _ => rfl), (fun _ _ => rfl), (fun _ _ => rfl), (fun _ _ => rfl), (fun _ _ => rfl), (fun _ _ => rfl), (fun _ _ => rfl), (fun _ _ => rfl), (fun _ _ => rfl), (fun _ _ => rfl), (fun _ _ => rfl), (fun _ h => absurd rfl h), (fun _ _ => rfl), (fun _ _ => rfl), (fun _ _ => rfl), (fun _ _ => rfl), (fun _ _ => rfl), (fun h _ => absurd rfl h)⟩) f (List.mem_range.mp m1) q1 q2]
  | none =>
    rw [h2] at he
    replace he : kcell τ (K a) a = some e := he
    have hKa : K a = 1 ∨ K a = 2 := by
      unfold kcell at he
      by_cases k1 : K a = 1
      · exact Or.inl k1
      · rw [if_neg k1] at he
        by_cases k2 : K a = 2
        · exact Or.inr k2
        · rw [if_neg k2] at he; cases he
    have n1 : a ≠ P 19 := fun z => by
      have := hk.2 19 (by decide) hL
      rw [← z] at this
      rcases hKa with q | q
      · exact this.1 q
      · exact this.2 q
    have n2 : a ≠ ed' := fun z => by
      rw [← z] at hKe
      rcases hKa with q | q
      · exact hKe.1 q
      · exact hKe.2 q
    rw [f_up_n n1, f_up_n n2]
    unfold cheap
    rw [ch_none hk hKa]
    exact he
end CM3
