/-! ===== constructors: helpers ===== -/
theorem f_add' {g : gT} {A : Nat → Prop} {h : fH} {H1 : Heap} {ws : va_W} {a : Nat} {e : va_E} (h2 : ∀ a e, h a = some e → ∃ k : Nat, ws[k]? = some (a, e)) (hP : va_P g.1 vwCl (ws ++ [(a, e)]) H1) (hD : va_D A (ws ++ [(a, e)])) : h a = none ∧ f_at g.1 A (f_up h a e) H1 ∧ ∀ b e1, f_up h a e b = some e1 → ∃ k : Nat, (ws ++ [(a, e)])[k]? = some (b, e1) := by
  obtain ⟨n1, n2⟩ := f_add h2 hP hD
  refine ⟨n1, n2, fun b e1 hb => ?_⟩
  by_cases n : b = a
  · subst n
    rw [f_up_s] at hb
    cases hb
    exact ⟨ws.length, by rw [List.getElem?_append_right (Nat.le_refl _), Nat.sub_self]; rfl⟩
  · rw [f_up_n n] at hb
    obtain ⟨j, hj⟩ := h2 b e1 hb
    exact ⟨j, by rw [List.getElem?_append_left (List.getElem?_eq_some_iff.mp hj).1]; exact hj⟩
theorem va_P_pre {g : gT} {a b : va_W} {H : Heap} (h : va_P g.1 vwCl (a ++ b) H) : va_P g.1 vwCl a H := fun k q hq => h k q (by rw [List.getElem?_append_left (List.getElem?_eq_some_iff.mp hq).1]; exact hq)
theorem va_D_pre {A : Nat → Prop} {a b : va_W} (h : va_D A (a ++ b)) : va_D A a := by
  have k : ∀ (i : Nat) (q : Nat × va_E), a[i]? = some q → (a ++ b)[i]? = some q := fun i q hq => by rw [List.getElem?_append_left (List.getElem?_eq_some_iff.mp hq).1]; exact hq
  exact ⟨fun i j p q hi hj e => h.1 i j p q (k i p hi) (k j q hj) e, fun i q hq => h.2 i q (k i q hq)⟩
theorem arrV_ext {c : ClassId} {N : Nat} {f f' : Nat → Value} (h : ∀ j, j < N → f j = f' j) : arrV c N f = arrV c N f' := by
  unfold arrV
  congr 1
  congr 1
  funext j
  exact h j.val j.isLt
theorem f_at_swap {G : va_G} {A : Nat → Prop} {h : fH} {H : Heap} {q : Nat} {x y : ClassId × vp_A} (hP : f_at G A (f_up h q (.inl x)) H) (hc : vp_cell x.1 x.2 = vp_cell y.1 y.2) : f_at G A (f_up h q (.inl y)) H := by
  intro a e he
  by_cases n : a = q
  · subst n
    rw [f_up_s] at he
    cases he
    obtain ⟨p1, p2⟩ := hP a _ (f_up_s _ _ _)
    refine ⟨?_, p2⟩
    show H[a]? = some (vp_cell y.1 y.2)
    rw [← hc]
    exact p1
  · rw [f_up_n n] at he
    exact hP a e (by rw [f_up_n n]; exact he)
theorem f_up_none {h : fH} {a x : Nat} {e : va_E} (k : f_up h a e x = none) : x ≠ a ∧ h x = none := by
  by_cases n : x = a
  · subst n; rw [f_up_s] at k; cases k
  · rw [f_up_n n] at k; exact ⟨n, k⟩
set_option maxRecDepth 100000 in
theorem jw_mna : Cond.classLink RX0 21 "[[I" ∈ lw_T := lw_T_mem (List.mem_of_getElem? (i := 126) (by decide +kernel)) (by decide +kernel)
section VMNA
variable {p : Program} {l : Launch} {e : Env} {R : Room} {s : State} {m : MethodId} {args : Array Value} {below : List Frame} {meth : Method} {c : Code} {Q : State → Prop} {nl : Nat} {g : gT} {A : Nat → Prop} {h : fH} {cells slots pc : Nat} {lo lo' : List (Option Value)} {st : List Value} {cc : ByteArray} {ret : Option FieldType}
theorem v_mna (F : Fx p l s m args meth c cc nl ret RX0 g A) (d : decode cc pc = .ok (.multianewarray 21 2, 4)) (h1 : cells + 3 ≤ R.cells) (h2 : slots + 18 ≤ R.slots) (kk : ∀ q r0 r1, h q = none → f_up h q (qar (g.2.1 3) 2 (fun z => if z ≤ 0 then some r0 else some r1)) r0 = none → f_up (f_up h q (qar (g.2.1 3) 2 (fun z => if z ≤ 0 then some r0 else some r1))) r0 (iar (g.2.1 0) 8 (fun _ => 0)) r1 = none → V p l e R s m args below meth c Q nl g A (f_up (f_up (f_up h q (qar (g.2.1 3) 2 (fun z => if z ≤ 0 then some r0 else some r1))) r0 (iar (g.2.1 0) 8 (fun _ => 0))) r1 (iar (g.2.1 0) 8 (fun _ => 0))) (cells + 3) (slots + 18) (pc + 4) lo (.ref q :: st)) : V p l e R s m args below meth c Q nl g A h cells slots pc lo (.int (iI 8) :: .int (iI 2) :: st) := by
  intro H locs ls hP hS hl
  obtain ⟨hx, hb, hml, hr, hown, hlk, hK, hST, hA, hl9, hts⟩ := F
  obtain ⟨ws, w1, w2, w3, w4⟩ := f_ws hP
  have e2 : (iI 2).toNatClampNeg = 2 := iI_cl (by omega)
  have e8 : (iI 8).toNatClampNeg = 8 := iI_cl (by omega)
  have c0 := (hK.1.2 0 (g.2.1 0, .int) rfl).2
  have c3 := (hK.1.2 3 (g.2.1 3, .array .int) rfl).2
  refine va_mna (D := g.1) (X := ws) (L := []) (f := fun _ => iar (g.2.1 0) 8 (fun _ => 0)) (ty := .int) (cy := g.2.1 0) (z := (8, .inl (fun k => iI ((fun _ => 0 : Int → Int) (k : Int))))) (N' := 2) (K' := 8) hx hb hown (hts _ jw_mna) hST.2.2.2.2.2 (hts _ tw_ac0) c0 hK.1 (by unfold va_pl; rw [List.map_nil, List.append_nil]; exact w1) (by unfold va_pl; rw [List.map_nil, List.append_nil]; exact w2) hS hA (by rw [iI_0, iI_lt (by omega) (by omega)]; omega) (by rw [iI_0, iI_lt (by omega) (by omega)]; omega) e2 e8 (by decide) (by decide) (by decide) (by decide) (by decide) (by omega) (by omega) (fun c => rfl) d (fun q r cA H1 k0 k1 k2 p1 p2 p3 => ?_)
  have ec : g.2.1 3 = cA := Option.some.inj (c3.symm.trans (k2.2 4 (cA, .array .int) rfl).2)
  subst ec
  have el : ((ws ++ [(q, (Sum.inl (g.2.1 3, 2, .inr (.inr (.inr (.inr (fun i => if i < 2 then some (r i) else none))))) : va_E))]) ++ va_pl ([] ++ (List.range 2).map r) (vr_up (fun _ => iar (g.2.1 0) 8 (fun _ => 0)) ((List.range 2).map r) (.inl (g.2.1 0, (8, .inl (fun k => iI ((fun _ => 0 : Int → Int) (k : Int)))))))) = ((ws ++ [(q, (Sum.inl (g.2.1 3, 2, .inr (.inr (.inr (.inr (fun i => if i < 2 then some (r i) else none))))) : va_E))]) ++ [(r 0, iar (g.2.1 0) 8 (fun _ => 0))]) ++ [(r 1, iar (g.2.1 0) 8 (fun _ => 0))] := by
    rw [List.append_assoc _ [_] [_]]
    congr 1
    show [(r 0, vr_up _ [r 0, r 1] _ (r 0)), (r 1, vr_up _ [r 0, r 1] _ (r 1))] = _
    rw [vr_up_in (by simp), vr_up_in (by simp)]
    rfl
  rw [el] at p1 p2
  obtain ⟨a1, a2, a3⟩ := f_add' w3 (va_P_pre (va_P_pre p1)) (va_D_pre (va_D_pre p2))
  obtain ⟨b1, b2, b3⟩ := f_add' a3 (va_P_pre p1) (va_D_pre p2)
  obtain ⟨d1, d2, d3⟩ := f_add' b3 p1 p2
  obtain ⟨nb1, nb2⟩ := f_up_none b1
  obtain ⟨nd1, nd2⟩ := f_up_none d1
  obtain ⟨nd3, nd4⟩ := f_up_none nd2
  have hc : vp_cell (g.2.1 3) (2, .inr (.inr (.inr (.inr (fun i => if i < 2 then some (r i) else none))))) = vp_cell (g.2.1 3) (2, .inr (.inr (.inr (.inr (fun k => (fun z : Int => if z ≤ 0 then some (r 0) else some (r 1)) ((k : Nat) : Int)))))) := by
    rw [vp_cell_q, vp_cell_q]
    refine arrV_ext (fun j hj => ?_)
    rcases (show j = 0 ∨ j = 1 by omega) with rfl | rfl <;> rfl
  refine kk q (r 0) (r 1) a1 (by rw [f_up_n nb1]; exact nb2) (by rw [f_up_n nd1, f_up_n nd3]; exact nd4) H1 locs ls ?_ p3 hl
  rw [f_up_cm nb1, f_up_cm nd3] at d2 ⊢
  exact f_at_swap d2 hc
end VMNA
/-- a list of places that hold something, all apart -/
theorem al_cons {h h' : fH} {L : List Nat} {q : Nat} (hnd : L.Nodup) (hall : ∀ x ∈ L, h x ≠ none) (nq : h q = none) (hq' : h' q ≠ none) (hk : ∀ x ∈ L, h x ≠ none → h' x ≠ none) : (q :: L).Nodup ∧ ∀ x ∈ q :: L, h' x ≠ none := by
  refine ⟨List.nodup_cons.mpr ⟨fun hm => hall q hm nq, hnd⟩, fun x hx => ?_⟩
  rcases List.mem_cons.mp hx with rfl | hx
  · exact hq'
  · exact hk x hx (hall x hx)
theorem f_up_some {h : fH} {a x : Nat} {e : va_E} (hx : h x ≠ none) : f_up h a e x ≠ none := by
  by_cases n : x = a
  · subst n; rw [f_up_s]; exact fun z => by cases z
  · rw [f_up_n n]; exact hx
theorem nd_inj {L : List Nat} (h : L.Nodup) {i j : Nat} (hi : i < L.length) (hj : j < L.length) (e : L.getD i 0 = L.getD j 0) : i = j := by
  rw [List.getD_eq_getElem?_getD, List.getD_eq_getElem?_getD, List.getElem?_eq_getElem hi, List.getElem?_eq_getElem hj] at e
  exact (List.getElem_inj h).mp e
theorem ch_sub0 {g : gT} {P : Nat → Nat} {r : Nat → Int → Option Nat} {cp : Nat → Nat} {b b' : Nat} {τ : sT} {h : fH} (hall : ∀ f, f < 26 → clive cp f = true → h (P f) = some (ccell g P r cp b b' τ f)) : ∀ a e, cheap g P (fun _ => 0) r cp b b' τ a = some e → h a = some e := by
  intro a e he
  unfold cheap at he
  cases h2 : cks.find? (fun f => clive cp f && P f == a) with
  | none => rw [h2] at he; cases he
  | some f =>
    rw [h2] at he
    have h3 := List.find?_some h2
    rw [Bool.and_eq_true] at h3
    have h4 : P f = a := by simpa using h3.2
    rw [← h4, hall f (List.mem_range.mp (List.mem_of_find?_eq_some h2)) h3.1]
    exact he
