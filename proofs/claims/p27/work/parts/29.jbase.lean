/-! ===== lists: helpers ===== -/
theorem f_up_up (h : fH) (a : Nat) (e e' : va_E) : f_up (f_up h a e) a e' = f_up h a e' := by
  funext q
  by_cases hq : q = a
  · subst hq; rw [f_up_s, f_up_s]
  · rw [f_up_n hq, f_up_n hq, f_up_n hq]
theorem f_up_cm {a b : Nat} (n : b ≠ a) (h : fH) (e e' : va_E) : f_up (f_up h a e) b e' = f_up (f_up h b e') a e := by
  funext q
  by_cases hq : q = a
  · subst hq; rw [f_up_s, f_up_n (Ne.symm n), f_up_s]
  · by_cases hb : q = b
    · subst hb; rw [f_up_s, f_up_n hq, f_up_s]
    · rw [f_up_n hb, f_up_n hq, f_up_n hq, f_up_n hb]
theorem f_up_up1 {a b : Nat} (n : b ≠ a) (h : fH) (e e1 e' : va_E) : f_up (f_up (f_up h a e) b e1) a e' = f_up (f_up h a e') b e1 := by
  rw [f_up_cm (Ne.symm n), f_up_up]
theorem f_up_up2 {a b c : Nat} (n : b ≠ a) (m : c ≠ a) (h : fH) (e e1 e2 e' : va_E) : f_up (f_up (f_up (f_up h a e) b e1) c e2) a e' = f_up (f_up (f_up h a e') b e1) c e2 := by
  rw [f_up_cm (Ne.symm m), f_up_up1 n]
theorem f_up_id {h : fH} {a : Nat} {e : va_E} (k : h a = some e) : f_up h a e = h := by
  funext q
  by_cases hq : q = a
  · subst hq; rw [f_up_s, k]
  · rw [f_up_n hq]
theorem icp_in {f g : Int → Option Nat} {sp dp n j : Int} (h1 : dp ≤ j) (h2 : j < dp + n) : icp f g sp dp n j = f (sp + (j - dp)) := if_pos ⟨h1, h2⟩
theorem icp_out {f g : Int → Option Nat} {sp dp n j : Int} (h : ¬ (dp ≤ j ∧ j < dp + n)) : icp f g sp dp n j = g j := if_neg h
/-- a list's array: the common empty one, or its own -/
def lb (g : gT) (h : fH) (ed cap : Nat) (r : Int → Option Nat) : Prop := (cap = 0 ∧ ed = g.2.2) ∨ h ed = some (qar (g.2.1 2) cap r)
theorem lb.up {g : gT} {h : fH} {ed cap a : Nat} {r : Int → Option Nat} {x : Nat × List Value} {e : va_E} (k : lb g h ed cap r) (ha : h a = some (.inr x)) : lb g (f_up h a e) ed cap r := by
  rcases k with k | k
  · exact Or.inl k
  · refine Or.inr ?_
    rw [f_up_n (fun z => ?_)]
    · exact k
    · rw [z, ha] at k; cases k
theorem lb.ne {g : gT} {h : fH} {ed cap a : Nat} {r : Int → Option Nat} {x : Nat × List Value} (k : h ed = some (qar (g.2.1 2) cap r)) (ha : h a = some (.inr x)) : ed ≠ a := fun z => by
  rw [z, ha] at k; cases k
theorem lb.pos {g : gT} {h : fH} {ed cap : Nat} {r : Int → Option Nat} (k : lb g h ed cap r) (hc : 0 < cap) : h ed = some (qar (g.2.1 2) cap r) := by
  rcases k with k | k
  · omega
  · exact k
theorem hel_up {h : fH} {a ci : Nat} {x : List Value} {e : va_E} {f : Int → Option Nat} {lo hi : Int} (hci : ci ≠ 2) (ha : h a = some (.inr (2, x))) (hel : ∀ i, lo ≤ i → i < hi → ∀ y, f i = some y → ∃ vs, h y = some (.inr (ci, vs))) : ∀ i, lo ≤ i → i < hi → ∀ y, f i = some y → ∃ vs, f_up h a e y = some (.inr (ci, vs)) := by
  intro i h1 h2 y hy
  obtain ⟨vs, hvs⟩ := hel i h1 h2 y hy
  refine ⟨vs, ?_⟩
  rw [f_up_n (fun z => ?_)]
  · exact hvs
  · rw [z, ha] at hvs
    exact hci (by cases hvs; rfl)
theorem hel_new {h : fH} {q ci : Nat} {e : va_E} {f : Int → Option Nat} {lo hi : Int} (hq : h q = none) (hel : ∀ i, lo ≤ i → i < hi → ∀ y, f i = some y → ∃ vs, h y = some (.inr (ci, vs))) : ∀ i, lo ≤ i → i < hi → ∀ y, f i = some y → ∃ vs, f_up h q e y = some (.inr (ci, vs)) := by
  intro i h1 h2 y hy
  obtain ⟨vs, hvs⟩ := hel i h1 h2 y hy
  refine ⟨vs, ?_⟩
  rw [f_up_n (fun z => ?_)]
  · exact hvs
  · rw [z, hq] at hvs
    cases hvs
theorem hel_arr {h : fH} {q ci : Nat} {x : ClassId × vp_A} {e : va_E} {f : Int → Option Nat} {lo hi : Int} (hq : h q = some (.inl x)) (hel : ∀ i, lo ≤ i → i < hi → ∀ y, f i = some y → ∃ vs, h y = some (.inr (ci, vs))) : ∀ i, lo ≤ i → i < hi → ∀ y, f i = some y → ∃ vs, f_up h q e y = some (.inr (ci, vs)) := by
  intro i h1 h2 y hy
  obtain ⟨vs, hvs⟩ := hel i h1 h2 y hy
  refine ⟨vs, ?_⟩
  rw [f_up_n (fun z => ?_)]
  · exact hvs
  · rw [z, hq] at hvs
    cases hvs
section VL
variable {p : Program} {l : Launch} {e : Env} {R : Room} {s : State} {m : MethodId} {args : Array Value} {below : List Frame} {meth : Method} {c : Code} {Q : State → Prop} {nl : Nat} {g : gT} {A : Nat → Prop} {h : fH} {cells slots pc : Nat} {lo lo' : List (Option Value)} {st : List Value} {cc : ByteArray} {ret : Option FieldType} {own : String}
theorem v_alenL (F : Fx p l s m args meth c cc nl ret own g A) {a cap : Nat} {r : Int → Option Nat} (d : decode cc pc = .ok (.arraylength, 1)) (hb : lb g h a cap r) (kk : V p l e R s m args below meth c Q nl g A h cells slots (pc + 1) lo (.int (iI ((cap : Nat) : Int)) :: st)) : V p l e R s m args below meth c Q nl g A h cells slots pc lo (.ref a :: st) := by
  rcases hb with ⟨rfl, rfl⟩ | hb
  · exact v_alen0 F d kk
  · exact v_alen F (t := 2) d hb rfl kk
theorem v_ldcI (F : Fx p l s m args meth c cc nl ret own g A) {index : Nat} {v : Int} (lk : Cond.constant own index (iI v) ∈ lw_T) (d : decode cc pc = .ok (.ldc index, 2)) (k : V p l e R s m args below meth c Q nl g A h cells slots (pc + 2) lo (.int (iI v) :: st)) : V p l e R s m args below meth c Q nl g A h cells slots pc lo st := by
  intro H locs ls hP hS hl
  obtain ⟨hx, hb, hml, hr, hown, hlk, hK, hST, hA, hl9, hts⟩ := F
  exact lv_ldc hx hb hown (hts _ lk) d (k H locs ls hP hS hl)
theorem v_mmax (F : Fx p l s m args meth c cc nl ret own g A) {index : Nat} {a b : Int} {rest : List Value} (ci : CI own index yJ9_max_7cf53 cJ9_max_7cf53 2 (some .int) 2) (cs : Cond.static yJ9_max_7cf53 ∈ lw_T) (d : decode cc pc = .ok (.invokestatic index, 3)) (ha : -2147483648 ≤ a ∧ a ≤ 2147483647) (hb9 : -2147483648 ≤ b ∧ b ≤ 2147483647) (hfr : 1 ≤ R.frames) (hW : (rest.map fun v => v.category).sum ≤ 8) (hlo : 21 ≤ R.locals) (hc : cells ≤ R.cells) (hs : slots ≤ R.slots) (kk : V p l e R s m args below meth c Q nl g A h cells slots (pc + 3) lo (.int (iI (max a b)) :: rest)) : V p l e R s m args below meth c Q nl g A h cells slots pc lo (.int (iI b) :: .int (iI a) :: rest) := by
  intro H locs ls hP hS hl
  obtain ⟨hx, hb, hml, hr, hown, hlk, hK, hST, hA, hl9, hts⟩ := F
  obtain ⟨c1, c2, c3, c4⟩ := ci
  refine va_mmax hx hb (hml.trans hl.1.symm) hown (hts _ c1) (hts _ cs) (hts _ c2) (hts _ c3) hfr (by omega) hc hs d ?_
  have e1 : (if iI a < iI b then iI b else iI a) = iI (max a b) := by
    by_cases q : a < b
    · rw [if_pos ((iI_lt ha hb9).mpr q)]; congr 1; omega
    · rw [if_neg (fun z => q ((iI_lt ha hb9).mp z))]; congr 1; omega
  rw [e1]
  exact kk H locs ls hP hS hl
theorem v_mmin (F : Fx p l s m args meth c cc nl ret own g A) {index : Nat} {a b : Int} {rest : List Value} (ci : CI own index yJ9_min_7cf53 cJ9_min_7cf53 2 (some .int) 2) (cs : Cond.static yJ9_min_7cf53 ∈ lw_T) (d : decode cc pc = .ok (.invokestatic index, 3)) (ha : -2147483648 ≤ a ∧ a ≤ 2147483647) (hb9 : -2147483648 ≤ b ∧ b ≤ 2147483647) (hfr : 1 ≤ R.frames) (hW : (rest.map fun v => v.category).sum ≤ 8) (hlo : 21 ≤ R.locals) (hc : cells ≤ R.cells) (hs : slots ≤ R.slots) (kk : V p l e R s m args below meth c Q nl g A h cells slots (pc + 3) lo (.int (iI (min a b)) :: rest)) : V p l e R s m args below meth c Q nl g A h cells slots pc lo (.int (iI b) :: .int (iI a) :: rest) := by
  intro H locs ls hP hS hl
  obtain ⟨hx, hb, hml, hr, hown, hlk, hK, hST, hA, hl9, hts⟩ := F
  obtain ⟨c1, c2, c3, c4⟩ := ci
  refine va_mmin hx hb (hml.trans hl.1.symm) hown (hts _ c1) (hts _ cs) (hts _ c2) (hts _ c3) hfr (by omega) hc hs d ?_
  have e1 : (if iI b < iI a then iI b else iI a) = iI (min a b) := by
    by_cases q : b < a
    · rw [if_pos ((iI_lt hb9 ha).mpr q)]; congr 1; omega
    · rw [if_neg (fun z => q ((iI_lt hb9 ha).mp z))]; congr 1; omega
  rw [e1]
  exact kk H locs ls hP hS hl
/-- some cells are forgotten -/
theorem V.sub {h' : fH} (k : V p l e R s m args below meth c Q nl g A h' cells slots pc lo st) (hs : ∀ a e, h' a = some e → h a = some e) : V p l e R s m args below meth c Q nl g A h cells slots pc lo st :=
  fun H locs ls hP hS hl => k H locs ls (fun a e he => hP a e (hs a e he)) hS hl
end VL
set_option maxRecDepth 100000 in
theorem jw_k200 : Cond.constant RJ8 200 (iI 2147483639) ∈ lw_T := lw_T_mem (List.mem_of_getElem? (i := 313) (by decide +kernel)) (by decide +kernel)
/-- what is known of a heap's cells, and of others beside it -/
def f_or (h k : fH) : fH := fun q => (h q).or (k q)
theorem f_or_l {h k : fH} {a : Nat} {e : va_E} (q : h a = some e) : f_or h k a = some e := by unfold f_or; rw [q]; rfl
theorem f_or_r {h k : fH} {a : Nat} (q : h a = none) : f_or h k a = k a := by unfold f_or; rw [q]; rfl
theorem ST.nar {g : gT} {A B : Nat → Prop} {U : State} {H : Heap} (h : ST g A U H) (hAB : ∀ q, B q → A q) : ST g B U H := by
  obtain ⟨⟨a1, a2⟩, ⟨b1, b2, b3⟩, c1, d1⟩ := h
  exact ⟨⟨a1.narrow hAB, a2.narrow hAB⟩, ⟨b1.narrow hAB, b2, fun z => b3 (hAB _ z)⟩, c1, d1⟩
theorem f_at_or {G : va_G} {A : Nat → Prop} {h k : fH} {H H1 : Heap} (h1 : f_at G (fun q => A q ∧ k q = none) h H1) (hk : f_at G A (f_or (fun _ => none) k) H) (hs : ∀ q : Nat, q < H.size → ¬ (A q ∧ k q = none) → H1[q]? = H[q]?) : f_at G A (f_or h k) H1 := by
  intro a e he
  cases hq : h a with
  | some e' =>
    rw [f_or_l hq] at he
    cases he
    obtain ⟨p1, p2, -⟩ := h1 a _ hq
    exact ⟨p1, p2⟩
  | none =>
    rw [f_or_r hq] at he
    obtain ⟨p1, p2⟩ := hk a e (by rw [f_or_r rfl]; exact he)
    refine ⟨p1.kept (hs a p1.lt ?_), p2⟩
    rintro ⟨-, z⟩
    rw [he] at z
    cases z
/-- the frame rule: what a method doesn't know of stays -/
theorem CM.frame {l : Launch} {g : gT} {y : MethodName} {cc : ByteArray} {nl : Nat} {ret : Option FieldType} {rm : Room} {av : List Value} {h k : fH} {post : Option Value → fH → Prop} {px : String → fH → Prop} (hM : CM l g y cc nl ret rm av h post px) (hd : ∀ a, k a ≠ none → h a = none) :
    CM l g y cc nl ret rm av (f_or h k) (fun v h2 => ∃ h', post v h' ∧ h2 = f_or h' k ∧ ∀ a, k a ≠ none → h' a = none) (fun E h2 => ∃ h', px E h' ∧ h2 = f_or h' k ∧ ∀ a, k a ≠ none → h' a = none) := by
  intro hl A p e ha hc hk s m args below hf hap hP hK
  obtain ⟨hav, hat, hKK, hST, hA⟩ := hP
  have hk0 : f_at g.1 A (f_or (fun _ => none) k) s.heap := fun a e he => by
    rw [f_or_r rfl] at he
    refine hat a e ?_
    rw [f_or_r (hd a (by rw [he]; exact fun z => by cases z))]
    exact he
  have hsz : ∀ q, s.heap.size ≤ q → k q = none := fun q hq => by
    cases hkq : k q with
    | none => rfl
    | some e =>
      have := (hk0 q e (by rw [f_or_r rfl]; exact hkq)).1.lt
      exact absurd this (Nat.not_lt.mpr hq)
  have hdis : ∀ h' : fH, ∀ H1 : Heap, f_at g.1 (fun q => A q ∧ k q = none) h' H1 → ∀ a, k a ≠ none → h' a = none := fun h' H1 h1 a ka => by
    cases hq : h' a with
    | none => rfl
    | some e => exact absurd (h1 a e hq).2.2 ka
  have hP' : va_Pc av (PS g (fun q => A q ∧ k q = none) h) args s := by
    refine ⟨hav, fun a e he => ?_, hKK, hST.nar (fun q z => z.1), fun q hq => ⟨hA q hq, hsz q hq⟩⟩
    obtain ⟨p1, p2⟩ := hat a e (f_or_l he)
    refine ⟨p1, p2, ?_⟩
    cases hkq : k a with
    | none => rfl
    | some e' =>
      have := hd a (by rw [hkq]; exact fun z => by cases z)
      rw [this] at he
      cases he
  obtain ⟨n, o, h1, h2, h3, h4⟩ := hM hl (fun q => A q ∧ k q = none) p e ha hc hk s m args below hf hap hP' hK
  refine ⟨n, o, h1, h2, h3, ?_⟩
  rcases h4 with ⟨⟨v, h', e1, e2, e3, e4⟩, L, hL, hL2⟩ | ⟨q, e1, E, ce, L, ⟨h', e2, e3, e4⟩, e5⟩
  · exact Or.inl ⟨⟨v, f_or h' k, e1, ⟨h', e2, rfl, hdis _ _ e3⟩, f_at_or e3 hk0 (fun q q1 q2 => e4.2 q q1 q2), e4.1, fun q q1 q2 => e4.2 q q1 (fun z => q2 z.1)⟩, L, hL, fun q hq => (hL2 q hq).1⟩
  · refine Or.inr ⟨q, e1, E, ce, L, ⟨f_or h' k, ⟨h', e2, rfl, hdis _ _ e3⟩, f_at_or e3 hk0 (fun q q1 q2 => e4.2 q q1 q2), e4.1, fun q q1 q2 => e4.2 q q1 (fun z => q2 z.1)⟩, e5.1, e5.2.1, e5.2.2.1, e5.2.2.2.1, e5.2.2.2.2.1, fun z hz => (e5.2.2.2.2.2 z hz).1⟩
theorem CM.mono {l : Launch} {g : gT} {y : MethodName} {cc : ByteArray} {nl : Nat} {ret : Option FieldType} {rm : Room} {av : List Value} {h : fH} {post post' : Option Value → fH → Prop} {px px' : String → fH → Prop} (hM : CM l g y cc nl ret rm av h post px) (hp : ∀ v h', post v h' → ∃ h2, post' v h2 ∧ ∀ a e, h2 a = some e → h' a = some e) (hx : ∀ E h', px E h' → ∃ h2, px' E h2 ∧ ∀ a e, h2 a = some e → h' a = some e) : CM l g y cc nl ret rm av h post' px' := by
  intro hl A p e ha hc hk s m args below hf hap hP hK
  obtain ⟨n, o, h1, h2, h3, h4⟩ := hM hl A p e ha hc hk s m args below hf hap hP hK
  refine ⟨n, o, h1, h2, h3, ?_⟩
  rcases h4 with ⟨⟨v, h', e1, e2, e3, e4⟩, hL⟩ | ⟨q, e1, E, ce, L, ⟨h', e2, e3, e4⟩, e5⟩
  · obtain ⟨h2, p1, p2⟩ := hp v h' e2
    exact Or.inl ⟨⟨v, h2, e1, p1, fun a e he => e3 a e (p2 a e he), e4⟩, hL⟩
  · obtain ⟨h2, p1, p2⟩ := hx E h' e2
    exact Or.inr ⟨q, e1, E, ce, L, ⟨h2, p1, fun a e he => e3 a e (p2 a e he), e4⟩, e5⟩
theorem CM.pre {l : Launch} {g : gT} {y : MethodName} {cc : ByteArray} {nl : Nat} {ret : Option FieldType} {rm : Room} {av : List Value} {h h1 : fH} {post : Option Value → fH → Prop} {px : String → fH → Prop} (hM : CM l g y cc nl ret rm av h post px) (hs : ∀ a e, h a = some e → h1 a = some e) : CM l g y cc nl ret rm av h1 post px := by
  intro hl A p e ha hc hk s m args below hf hap hP hK
  obtain ⟨hav, hat, hKK, hST, hA⟩ := hP
  exact hM hl A p e ha hc hk s m args below hf hap ⟨hav, fun a e he => hat a e (hs a e he), hKK, hST, hA⟩ hK
theorem f_norm {a b : Nat} (n : b ≠ a) (h : fH) (e e1 e' : va_E) : f_up (f_up (f_up h a e) b e1) a e' = f_up (f_up h b e1) a e' := by
  rw [f_up_up1 n, f_up_cm n]
/-- what a list's change leaves: the list at a, its array at ed' -/
def LA (g : gT) (h h' : fH) (a ed : Nat) (mc n : Int) (cap : Nat) (r : Int → Option Nat) (P : (Int → Option Nat) → Prop) : Prop := ∃ (ed' cap' : Nat) (r' : Int → Option Nat), h' = f_up (f_up h ed' (qar (g.2.1 2) cap' r')) a (.inr (2, [.int (iI mc), .ref ed', .int (iI n)])) ∧ (ed' = ed ∧ cap' = cap ∧ h ed = some (qar (g.2.1 2) cap r) ∨ h ed' = none) ∧ n ≤ cap' ∧ cap' ≤ 150 ∧ P r'
theorem LA.pre {g : gT} {h h' : fH} {a ed : Nat} {mc n : Int} {cap : Nat} {r : Int → Option Nat} {P : (Int → Option Nat) → Prop} {x y : List Value} (ha : h a = some (.inr (2, x))) (k : LA g (f_up h a (.inr (2, y))) h' a ed mc n cap r P) : LA g h h' a ed mc n cap r P := by
  obtain ⟨ed', cap', r', h1, h2, h3⟩ := k
  have ne : ed' ≠ a := by
    rcases h2 with ⟨rfl, rfl, h2⟩ | h2
    · exact lb.ne (x := (2, y)) h2 (f_up_s _ _ _)
    · intro z
      rw [z, f_up_s] at h2
      cases h2
  rw [f_norm ne] at h1
  refine ⟨ed', cap', r', h1, ?_, h3⟩
  rcases h2 with ⟨rfl, rfl, h2⟩ | h2
  · rw [f_up_n ne] at h2
    exact Or.inl ⟨rfl, rfl, h2⟩
  · rw [f_up_n ne] at h2
    exact Or.inr h2
