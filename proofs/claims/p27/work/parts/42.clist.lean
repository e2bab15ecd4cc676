/-! ===== the class's lists: add, remove, insert, clear ===== -/
theorem kup_id (K : Nat → Nat) (q : Nat) : kup K q (K q) = K := by
  funext a
  by_cases h : a = q
  · subst h; rw [kup_s]
  · rw [kup_n h]
theorem kup_kup (K : Nat → Nat) (q u v : Nat) : kup (kup K q u) q v = kup K q v := by
  funext a
  by_cases h : a = q
  · subst h; rw [kup_s, kup_s]
  · rw [kup_n h, kup_n h, kup_n h]
theorem rup_id (r : Nat → Int → Option Nat) (i : Nat) : rup r i (r i) = r := by
  funext j
  by_cases h : j = i
  · subst h; rw [rup_s]
  · rw [rup_n h]
theorem rup_rup (r : Nat → Int → Option Nat) (i : Nat) (u v : Int → Option Nat) : rup (rup r i u) i v = rup r i v := by
  funext j
  by_cases h : j = i
  · subst h; rw [rup_s, rup_s]
  · rw [rup_n h, rup_n h, rup_n h]
theorem su_su (τ : sT) (f : Nat) (z u v : Int) : su (su τ f z u) f z v = su τ f z v := by
  funext f' a
  by_cases h : f' = f
  · subst h
    rw [su_s, su_s, su_s]
    by_cases k : a = z
    · subst k; rw [iup_s, iup_s]
    · rw [iup_n k, iup_n k, iup_n k]
  · rw [su_n h, su_n h, su_n h]
theorem su_cm {τ : sT} {f f' : Nat} {z z' u v : Int} (h : f ≠ f') : su (su τ f z u) f' z' v = su (su τ f' z' v) f z u := by
  funext j
  by_cases h1 : j = f
  · subst h1
    rw [su_n h, su_s, su_s, su_n h]
  · by_cases h2 : j = f'
    · subst h2
      rw [su_s, su_n h1, su_n h1, su_s]
    · rw [su_n h2, su_n h1, su_n h1, su_n h2]
theorem su_id (τ : sT) (f : Nat) (z : Int) : su τ f z (τ f z) = τ := su_self τ f z
section CLI
variable {P K : Nat → Nat} {r : Nat → Int → Option Nat} {cp : Nat → Nat} {b b' : Nat} {τ : sT}
theorem lb_0 {g : gT} (hk : cok P K cp) : lb g (cheap g P K r cp b b' τ) (edv g P cp 0) (cp 0) (r 0) := by
  by_cases h : cp 0 = 0
  · exact Or.inl ⟨h, if_pos h⟩
  · exact Or.inr (ch_ed0 hk h)
theorem hel_0 {g : gT} (hk : cok P K cp) (hL : Ls0 K r cp τ) : ∀ j, (0 : Int) ≤ j → j < τ 53 0 → ∀ y, r 0 j = some y → ∃ vs, cheap g P K r cp b b' τ y = some (.inr (4, vs)) := by
  intro j h1 h2 y hy
  have h3 := hL.2.2.2.2 j h1 h2
  rw [h3.1] at hy
  cases hy
  exact ⟨_, ch_m hk h3.2⟩
theorem cu_L0 {g : gT} (hk : cok P K cp) (mc n : Int) : f_up (cheap g P K r cp b b' τ) (P 3) (.inr (2, [.int (iI mc), .ref (edv g P cp 0), .int (iI n)])) = cheap g P K r cp b b' (su (su τ 50 0 mc) 53 0 n) := ch_up hk (by decide) (clv (by decide)) rfl (c_all (p := fun f => f ≠ 3 → _ = _) ⟨(fun _ => rfl), (fun _ => rfl), (fun _ => rfl), (fun h => absurd rfl h), (fun _ => rfl), (fun _ => rfl), (fun _ => rfl), (fun _ => rfl), (fun _ => rfl), (fun _ => rfl), (fun _ => rfl), (fun _ => rfl), (fun _ => rfl), (fun _ => rfl), (fun _ => rfl), (fun _ => rfl), (fun _ => rfl), (fun _ => rfl), (fun _ => rfl), (fun _ => rfl), (fun _ => rfl), (fun _ => rfl), (fun _ => rfl), (fun _ => rfl), (fun _ => rfl), (fun _ => rfl)⟩) (fun _ _ => rfl)
theorem lb_1 {g : gT} (hk : cok P K cp) : lb g (cheap g P K r cp b b' τ) (edv g P cp 1) (cp 1) (r 1) := by
  by_cases h : cp 1 = 0
  · exact Or.inl ⟨h, if_pos h⟩
  · exact Or.inr (ch_ed1 hk h)
theorem hel_1 {g : gT} (hk : cok P K cp) (hL : Ls1 K r cp τ) : ∀ j, (0 : Int) ≤ j → j < τ 54 0 → ∀ y, r 1 j = some y → ∃ vs, cheap g P K r cp b b' τ y = some (.inr (4, vs)) := by
  intro j h1 h2 y hy
  have h3 := hL.2.2.2.2 j h1 h2
  rw [h3.1] at hy
  cases hy
  exact ⟨_, ch_m hk h3.2⟩
theorem cu_L1 {g : gT} (hk : cok P K cp) (mc n : Int) : f_up (cheap g P K r cp b b' τ) (P 4) (.inr (2, [.int (iI mc), .ref (edv g P cp 1), .int (iI n)])) = cheap g P K r cp b b' (su (su τ 51 0 mc) 54 0 n) := ch_up hk (by decide) (clv (by decide)) rfl (c_all (p := fun f => f ≠ 4 → _ = _) ⟨(fun _ => rfl), (fun _ => rfl), (fun _ => rfl), (fun _ => rfl), (fun h => absurd rfl h), (fun _ => rfl), (fun _ => rfl), (fun _ => rfl), (fun _ => rfl), (fun _ => rfl), (fun _ => rfl), (fun _ => rfl), (fun _ => rfl), (fun _ => rfl), (fun _ => rfl), (fun _ => rfl), (fun _ => rfl), (fun _ => rfl), (fun _ => rfl), (fun _ => rfl), (fun _ => rfl), (fun _ => rfl), (fun _ => rfl), (fun _ => rfl), (fun _ => rfl), (fun _ => rfl)⟩) (fun _ _ => rfl)
theorem lb_2 {g : gT} (hk : cok P K cp) : lb g (cheap g P K r cp b b' τ) (edv g P cp 2) (cp 2) (r 2) := by
  by_cases h : cp 2 = 0
  · exact Or.inl ⟨h, if_pos h⟩
  · exact Or.inr (ch_ed2 hk h)
theorem hel_2 {g : gT} (hk : cok P K cp) (hL : Ls2 K r cp τ) : ∀ j, (0 : Int) ≤ j → j < τ 55 0 → ∀ y, r 2 j = some y → ∃ vs, cheap g P K r cp b b' τ y = some (.inr (5, vs)) := by
  intro j h1 h2 y hy
  have h3 := hL.2.2.2.2 j h1 h2
  rw [h3.1] at hy
  cases hy
  exact ⟨_, ch_r hk h3.2⟩
theorem cu_L2 {g : gT} (hk : cok P K cp) (mc n : Int) : f_up (cheap g P K r cp b b' τ) (P 19) (.inr (2, [.int (iI mc), .ref (edv g P cp 2), .int (iI n)])) = cheap g P K r cp b b' (su (su τ 52 0 mc) 55 0 n) := ch_up hk (by decide) (clv (by decide)) rfl (c_all (p := fun f => f ≠ 19 → _ = _) ⟨(fun _ => rfl), (fun _ => rfl), (fun _ => rfl), (fun _ => rfl), (fun _ => rfl), (fun _ => rfl), (fun _ => rfl), (fun _ => rfl), (fun _ => rfl), (fun _ => rfl), (fun _ => rfl), (fun _ => rfl), (fun _ => rfl), (fun _ => rfl), (fun _ => rfl), (fun _ => rfl), (fun _ => rfl), (fun _ => rfl), (fun _ => rfl), (fun h => absurd rfl h), (fun _ => rfl), (fun _ => rfl), (fun _ => rfl), (fun _ => rfl), (fun _ => rfl), (fun _ => rfl)⟩) (fun _ _ => rfl)
theorem kl_add0 (l : Launch) (g : gT) (hk : cok P K cp) (hb : b < 23) (hb' : b' < 23) (hL : Ls0 K r cp τ) {q : Nat} (hq : K q = 1) : CM l g yJx4a65c_add_9ea2d cJx4a65c_add_9ea2d 2 (some .boolean) { frames := 7, cells := 1, slots := 150, locals := 170 } [.ref (P 3), .ref q] (cheap g P K r cp b b' τ) (fun v h1 => v = some (.int (iI 1)) ∧ ∃ (ed cap : Nat) (r1 : Int → Option Nat), h1 = cheap g (kup P 23 ed) K (rup r 0 r1) (kup cp 0 cap) b b' (su (su τ 50 0 (τ 50 0 + 1)) 53 0 (τ 53 0 + 1)) ∧ cok (kup P 23 ed) K (kup cp 0 cap) ∧ τ 53 0 + 1 ≤ cap ∧ cap ≤ 150 ∧ r1 (τ 53 0) = some q ∧ ∀ j, 0 ≤ j → j < τ 53 0 → r1 j = r 0 j) noX := by
  refine CM.mono (k_Jx4a65c_add_9ea2d l g (ci := 4) (mc := τ 50 0) (n := τ 53 0) (ch_3 hk) (lb_0 hk) rfl jw_c_X1 (by decide) (hel_0 hk hL) (ch_m hk hq) hL.1 hL.2.1 (by have := hL.2.2.2.1; omega) hL.2.2.1) ?_ (fun _ _ z => z.elim)
  · rintro v h' ⟨hv, ed', cap', r', e1, e2, e3, e4, e5⟩
    have hL0 := hL.1
    have hor : (ed' = edv g P cp 0 ∧ cap' = cp 0 ∧ cp 0 ≠ 0) ∨ cheap g P K r cp b b' τ ed' = none := by
      rcases e2 with ⟨x1, x2, x3⟩ | x1
      · exact Or.inl ⟨x1, x2, by omega⟩
      · exact Or.inr x1
    obtain ⟨hk2, hs⟩ := kl_upd0 hk hb hb' e1 hor (by omega)
    exact ⟨_, ⟨hv, ed', cap', r', rfl, hk2, e3, e4, e5⟩, hs⟩
theorem kl_add2 (l : Launch) (g : gT) (hk : cok P K cp) (hb : b < 23) (hb' : b' < 23) (hL : Ls2 K r cp τ) {q : Nat} (hq : K q = 2) : CM l g yJx4a65c_add_9ea2d cJx4a65c_add_9ea2d 2 (some .boolean) { frames := 7, cells := 1, slots := 150, locals := 170 } [.ref (P 19), .ref q] (cheap g P K r cp b b' τ) (fun v h1 => v = some (.int (iI 1)) ∧ ∃ (ed cap : Nat) (r1 : Int → Option Nat), h1 = cheap g (kup P 25 ed) K (rup r 2 r1) (kup cp 2 cap) b b' (su (su τ 52 0 (τ 52 0 + 1)) 55 0 (τ 55 0 + 1)) ∧ cok (kup P 25 ed) K (kup cp 2 cap) ∧ τ 55 0 + 1 ≤ cap ∧ cap ≤ 150 ∧ r1 (τ 55 0) = some q ∧ ∀ j, 0 ≤ j → j < τ 55 0 → r1 j = r 2 j) noX := by
  refine CM.mono (k_Jx4a65c_add_9ea2d l g (ci := 5) (mc := τ 52 0) (n := τ 55 0) (ch_19 hk) (lb_2 hk) rfl jw_c_X2 (by decide) (hel_2 hk hL) (ch_r hk hq) hL.1 hL.2.1 (by have := hL.2.2.2.1; omega) hL.2.2.1) ?_ (fun _ _ z => z.elim)
  · rintro v h' ⟨hv, ed', cap', r', e1, e2, e3, e4, e5⟩
    have hL0 := hL.1
    have hor : (ed' = edv g P cp 2 ∧ cap' = cp 2 ∧ cp 2 ≠ 0) ∨ cheap g P K r cp b b' τ ed' = none := by
      rcases e2 with ⟨x1, x2, x3⟩ | x1
      · exact Or.inl ⟨x1, x2, by omega⟩
      · exact Or.inr x1
    obtain ⟨hk2, hs⟩ := kl_upd2 hk hb hb' e1 hor (by omega)
    exact ⟨_, ⟨hv, ed', cap', r', rfl, hk2, e3, e4, e5⟩, hs⟩
theorem kl_ins1 (l : Launch) (g : gT) (hk : cok P K cp) (hb : b < 23) (hb' : b' < 23) (hL : Ls1 K r cp τ) {q : Nat} (hq : K q = 1) {i : Int} (hi : 0 ≤ i ∧ i ≤ τ 54 0) : CM l g yJx4a65c_add_7a177 cJx4a65c_add_7a177 5 none { frames := 6, cells := 1, slots := 150, locals := 147 } [.ref (P 4), .int (iI i), .ref q] (cheap g P K r cp b b' τ) (fun v h1 => v = none ∧ ∃ (ed cap : Nat) (r1 : Int → Option Nat), h1 = cheap g (kup P 24 ed) K (rup r 1 r1) (kup cp 1 cap) b b' (su (su τ 51 0 (τ 51 0 + 1)) 54 0 (τ 54 0 + 1)) ∧ cok (kup P 24 ed) K (kup cp 1 cap) ∧ τ 54 0 + 1 ≤ cap ∧ cap ≤ 150 ∧ (∀ j, 0 ≤ j → j < i → r1 j = r 1 j) ∧ r1 i = some q ∧ ∀ j, i ≤ j → j < τ 54 0 → r1 (j + 1) = r 1 j) noX := by
  refine CM.mono (k_Jx4a65c_add_7a177 l g (ci := 4) (mc := τ 51 0) (n := τ 54 0) (ch_4 hk) (lb_1 hk) rfl jw_c_X1 (by decide) (hel_1 hk hL) (ch_m hk hq) hL.1 hL.2.1 (by have := hL.2.2.2.1; omega) hL.2.2.1 hi) ?_ (fun _ _ z => z.elim)
  · rintro v h' ⟨hv, ed', cap', r', e1, e2, e3, e4, e5⟩
    have hL0 := hL.1
    have hor : (ed' = edv g P cp 1 ∧ cap' = cp 1 ∧ cp 1 ≠ 0) ∨ cheap g P K r cp b b' τ ed' = none := by
      rcases e2 with ⟨x1, x2, x3⟩ | x1
      · exact Or.inl ⟨x1, x2, by omega⟩
      · exact Or.inr x1
    obtain ⟨hk2, hs⟩ := kl_upd1 hk hb hb' e1 hor (by omega)
    exact ⟨_, ⟨hv, ed', cap', r', rfl, hk2, e3, e4, e5⟩, hs⟩
theorem kl_rem0 (l : Launch) (g : gT) (hk : cok P K cp) (hb : b < 23) (hb' : b' < 23) (hL : Ls0 K r cp τ) {i : Int} (hi : 0 ≤ i ∧ i < τ 53 0) : CM l g yJx4a65c_remove_915e3 cJx4a65c_remove_915e3 4 (some (.object "java/lang/Object")) { frames := 3, cells := 0, slots := 0, locals := 83 } [.ref (P 3), .int (iI i)] (cheap g P K r cp b b' τ) (fun v h1 => v = some (.ref (ad r 0 i)) ∧ ∃ (ed cap : Nat) (r1 : Int → Option Nat), h1 = cheap g (kup P 23 ed) K (rup r 0 r1) (kup cp 0 cap) b b' (su (su τ 50 0 (τ 50 0 + 1)) 53 0 (τ 53 0 - 1)) ∧ cok (kup P 23 ed) K (kup cp 0 cap) ∧ τ 53 0 - 1 ≤ cap ∧ cap ≤ 150 ∧ (∀ j, 0 ≤ j → j < i → r1 j = r 0 j) ∧ ∀ j, i ≤ j → j < τ 53 0 - 1 → r1 j = r 0 (j + 1)) noX := by
  have hc0 : cp 0 ≠ 0 := by have := hL.2.1; omega
  refine CM.mono (k_Jx4a65c_remove_915e3 l g (ci := 4) (mc := τ 50 0) (n := τ 53 0) (cap := cp 0) (r := r 0) (ch_3 hk) (ch_ed0 hk hc0) rfl jw_c_X1 (by decide) (hel_0 hk hL) hL.2.1 (by have := hL.2.2.2.1; omega) hL.2.2.1 hi (hL.2.2.2.2 i hi.1 hi.2).1) ?_ (fun _ _ z => z.elim)
  · rintro v h' ⟨hv, r', e1, e5⟩
    obtain ⟨hk2, hs⟩ := kl_upd0 hk hb hb' e1 (Or.inl ⟨rfl, rfl, hc0⟩) hc0
    exact ⟨_, ⟨hv, edv g P cp 0, cp 0, r', rfl, hk2, by have := hL.2.1; omega, hL.2.2.1, e5⟩, hs⟩
theorem kl_clr1 (l : Launch) (g : gT) (hk : cok P K cp) (hb : b < 23) (hb' : b' < 23) (hL : Ls1 K r cp τ) : CM l g yJx4a65c_clear_da8c8 cJx4a65c_clear_da8c8 4 none { frames := 1, cells := 0, slots := 0, locals := 20 } [.ref (P 4)] (cheap g P K r cp b b' τ) (fun v h1 => v = none ∧ ∃ (ed cap : Nat) (r1 : Int → Option Nat), h1 = cheap g (kup P 24 ed) K (rup r 1 r1) (kup cp 1 cap) b b' (su (su τ 51 0 (τ 51 0 + 1)) 54 0 (0)) ∧ cok (kup P 24 ed) K (kup cp 1 cap) ∧ 0 ≤ cap ∧ cap ≤ 150 ∧ True) noX := by
  by_cases hz : cp 1 = 0
  · refine CM.mono (k_clear0 l g (mc := τ 51 0) (ed := edv g P cp 1) (n := τ 54 0) (ch_4 hk) (by have := hL.1; have := hL.2.1; omega)) ?_ (fun _ _ z => z.elim)
    rintro v h' ⟨rfl, rfl⟩
    rw [cu_L1 hk]
    refine ⟨_, ⟨rfl, P 24, cp 1, r 1, rfl, ?_, by omega, hL.2.2.1, trivial⟩, ?_⟩
    · rw [kup_id, kup_id]; exact hk
    · rw [kup_id, kup_id, rup_id]; exact fun a e h => h
  · refine CM.mono (k_clearB l g (mc := τ 51 0) (n := τ 54 0) (cap := cp 1) (r := r 1) (ch_4 hk) (ch_ed1 hk hz) hL.1 hL.2.1 (by have := hL.2.2.2.1; omega) hL.2.2.1) ?_ (fun _ _ z => z.elim)
    rintro v h' ⟨hv, r', e1, e5⟩
    obtain ⟨hk2, hs⟩ := kl_upd1 hk hb hb' e1 (Or.inl ⟨rfl, rfl, hz⟩) hz
    exact ⟨_, ⟨hv, edv g P cp 1, cp 1, r', rfl, hk2, Nat.zero_le _, hL.2.2.1, e5⟩, hs⟩
end CLI
