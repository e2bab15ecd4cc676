/-! ===== the law: rows of its own, contracts of methods with a table ===== -/
/-- which of the class's exceptions are no kind of which -/
def NC (U : State) : Prop := va_Nc "java/lang/IllegalStateException" "java/lang/IllegalArgumentException" U ∧ va_Nc "java/lang/IllegalArgumentException" "java/lang/IndexOutOfBoundsException" U ∧ va_Nc "java/lang/IllegalStateException" "java/lang/IndexOutOfBoundsException" U
theorem NC.moved {u U : State} (hvm : u.vm.Alike U.vm) (h : NC u) : NC U := ⟨va_Nc.moved hvm h.1, va_Nc.moved hvm h.2.1, va_Nc.moved hvm h.2.2⟩
def wPc (g : gT) (A : Nat → Prop) (h : fH) (av : List Value) : Array Value → State → Prop := fun args U => va_Pc av (PS g A h) args U ∧ NC U
theorem w_blind {g : gT} {A : Nat → Prop} {h : fH} {av : List Value} : FrameBlind (wPc g A h av) := by
  intro a U fr mk hp
  exact ⟨q_blind a U fr mk hp.1, NC.moved (u := U) (U := U.calling fr mk a) (Vm.Alike.refl U.vm) hp.2⟩
/-- a contract of a method with a table, that never throws -/
def CMW (l : Launch) (g : gT) (y : MethodName) (cc : ByteArray) (nl : Nat) (ret : Option FieldType) (hh : List (Nat × Nat × Nat × Nat)) (rm : Room) (av : List Value) (h : fH) (post : Option Value → fH → Prop) : Prop :=
  l.stackTraces = false → ∀ A : Nat → Prop, vx_Met l y [.codeWith y cc nl ret hh] rm (wPc g A h av) (q_Q g A post) (q_X g A noX) rm.cells rm.slots A
theorem CMW.of {l : Launch} {g : gT} {h : fH} {lo : List (Option Value)} {post : Option Value → fH → Prop} {y : MethodName} {cc2 : ByteArray} {nl2 : Nat} {ret2 : Option FieldType} {hh : List (Nat × Nat × Nat × Nat)} {rm : Room} {av : List Value} (hy : plainName y.cls = true) (hn : av.length ≤ nl2) (hcat : ∀ v ∈ av, v.category = 1) (hlo : lo = av.map some ++ List.replicate (nl2 - av.length) none)
    (body : ∀ (p : Program) (e : Env) (s : State) (m : MethodId) (below : List Frame) (meth : Method) (c : Code) (A : Nat → Prop), Fx p l s m av.toArray meth c cc2 nl2 ret2 y.cls g A → c.exceptionTable.toList = tableOf hh → NC s → VE p l e rm s m av.toArray below meth c nl2 g A h 0 0 0 lo [] post noX rm.cells rm.slots) : CMW l g y cc2 nl2 ret2 hh rm av h post := by
  intro hl A
  refine vx_ofWH hy rfl ?_
  intro p e s m args below meth c s₁ B hml hv
  obtain ⟨⟨rfl, hP, hK, hST, hA⟩, hN⟩ := hv
  have hown : s.vm.findClass y.cls = some m.cls := findClass_of_methodNamed B.named
  have htab : c.exceptionTable.toList = tableOf hh := vx_table (x := y) B (atoms_spec (ws := [.codeWith y cc2 nl2 ret2 hh]) B.pre _ List.mem_cons_self)
  have k := body p e s m below meth c A ⟨B.exec, B.bytes, hml, B.returns, hown, B.notSynchronized, hK, hST, hA, hl, fun w hw => va_lwT (u := s) (U := s) hw rfl (hK.2 w hw)⟩ htab hN
  rw [lg_entry_eq]
  subst hlo
  exact k s.heap [] _ hP va_S.rf (v_lo_entry hn hcat)
theorem CMW.frame {l : Launch} {g : gT} {y : MethodName} {cc : ByteArray} {nl : Nat} {ret : Option FieldType} {hh : List (Nat × Nat × Nat × Nat)} {rm : Room} {av : List Value} {h k : fH} {post : Option Value → fH → Prop} (hM : CMW l g y cc nl ret hh rm av h post) (hd : ∀ a, k a ≠ none → h a = none) :
    CMW l g y cc nl ret hh rm av (f_or h k) (fun v h2 => ∃ h', post v h' ∧ h2 = f_or h' k ∧ ∀ a, k a ≠ none → h' a = none) := by
  intro hl A p e ha hc hk s m args below hf hap hP hK
  obtain ⟨⟨hav, hat, hKK, hST, hA⟩, hN⟩ := hP
  have hk0 : f_at g.1 A (f_or (fun _ => none) k) s.heap := fun a e he => by
    rw [f_or_r rfl] at he
    refine hat a e ?_
    rw [f_or_r (hd a (by rw [he]; exact fun z => by cases z))]
    exact he
  have hsz : ∀ q, s.heap.size ≤ q → k q = none := fun q hq => by
    cases hkq : k q with
    | none => rfl
    | some e =>
      have := (hk0 q e (by rw [f_or_r rfl]; exact hkq)).1.lt
      exact absurd this (Nat.not_lt.mpr hq)
  have hdis : ∀ h' : fH, ∀ H1 : Heap, f_at g.1 (fun q => A q ∧ k q = none) h' H1 → ∀ a, k a ≠ none → h' a = none := fun h' H1 h1 a ka => by
    cases hq : h' a with
    | none => rfl
    | some e => exact absurd (h1 a e hq).2.2 ka
  have hP' : wPc g (fun q => A q ∧ k q = none) h av args s := by
    refine ⟨⟨hav, fun a e he => ?_, hKK, hST.nar (fun q z => z.1), fun q hq => ⟨hA q hq, hsz q hq⟩⟩, hN⟩
    obtain ⟨p1, p2⟩ := hat a e (f_or_l he)
    refine ⟨p1, p2, ?_⟩
    cases hkq : k a with
    | none => rfl
    | some e' =>
      have := hd a (by rw [hkq]; exact fun z => by cases z)
      rw [this] at he
      cases he
  obtain ⟨n, o, h1, h2, h3, h4⟩ := hM hl (fun q => A q ∧ k q = none) p e ha hc hk s m args below hf hap hP' hK
  refine ⟨n, o, h1, h2, h3, ?_⟩
  rcases h4 with ⟨⟨v, h', e1, e2, e3, e4⟩, L, hL, hL2⟩ | ⟨q, e1, E, ce, L, ⟨h', e2, e3, e4⟩, e5⟩
  · exact Or.inl ⟨⟨v, f_or h' k, e1, ⟨h', e2, rfl, hdis _ _ e3⟩, f_at_or e3 hk0 (fun q q1 q2 => e4.2 q q1 q2), e4.1, fun q q1 q2 => e4.2 q q1 (fun z => q2 z.1)⟩, L, hL, fun q hq => (hL2 q hq).1⟩
  · exact e2.elim
theorem CMW.mono {l : Launch} {g : gT} {y : MethodName} {cc : ByteArray} {nl : Nat} {ret : Option FieldType} {hh : List (Nat × Nat × Nat × Nat)} {rm : Room} {av : List Value} {h : fH} {post post' : Option Value → fH → Prop} (hM : CMW l g y cc nl ret hh rm av h post) (hp : ∀ v h', post v h' → post' v h') : CMW l g y cc nl ret hh rm av h post' := by
  intro hl A p e ha hc hk s m args below hf hap hP hK
  obtain ⟨n, o, h1, h2, h3, h4⟩ := hM hl A p e ha hc hk s m args below hf hap hP hK
  refine ⟨n, o, h1, h2, h3, ?_⟩
  rcases h4 with ⟨⟨v, h', e1, e2, e3, e4⟩, hL⟩ | ⟨q, e1, E, ce, L, ⟨h', e2, e3, e4⟩, e5⟩
  · exact Or.inl ⟨⟨v, h', e1, hp v h' e2, e3, e4⟩, hL⟩
  · exact e2.elim
/-- two heaps apart, the other way round -/
theorem f_or_comm {h k : fH} (hd : ∀ a, k a ≠ none → h a = none) : f_or h k = f_or k h := by
  funext a
  unfold f_or
  cases hk : k a with
  | none => cases h a <;> rfl
  | some e => rw [hd a (by rw [hk]; exact fun z => by cases z)]; rfl
theorem f_or_apart {h k : fH} (hd : ∀ a, k a ≠ none → h a = none) : ∀ a, h a ≠ none → k a = none := fun a ha => by
  cases hk : k a with
  | none => rfl
  | some e => exact absurd (hd a (by rw [hk]; exact fun z => by cases z)) ha
section VLAW
variable {p : Program} {l : Launch} {e : Env} {R : Room} {s : State} {m : MethodId} {args : Array Value} {below : List Frame} {meth : Method} {c : Code} {Q : State → Prop} {nl : Nat} {g : gT} {A : Nat → Prop} {h : fH} {cells slots pc : Nat} {lo lo' : List (Option Value)} {st : List Value} {cc : ByteArray} {ret : Option FieldType} {own : String}
theorem v_catch (F : Fx p l s m args meth c cc nl ret own g A) {hh : List (Nat × Nat × Nat × Nat)} {E name : String} (htab : c.exceptionTable.toList = tableOf hh) (pre : List ExceptionTableEntry) (x : ExceptionTableEntry) (suf : List ExceptionTableEntry) (hsplit : tableOf hh = pre ++ x :: suf) (hpass : ∀ z ∈ pre, z.catchType ≠ 0 ∧ ∃ nm : String, Cond.classLink own z.catchType nm ∈ lw_T ∧ va_Nc E nm s) (hx : covers x pc = true) (h0 : x.catchType ≠ 0) (hlink : Cond.classLink own x.catchType name ∈ lw_T) (hcast : Cond.castable E name ∈ lw_T) (kk : ∀ q, V p l e R s m args below meth c Q nl g A h cells slots x.handlerPc lo [.ref q]) : VX p l e R s m args below meth c Q nl g A h cells slots pc lo st E := by
  intro H locs ls ce q hP hS hl hce hcv hcl
  obtain ⟨hx9, hb, hml, hr, hown, hlk, hK, hST, hA, hl9, hts⟩ := F
  exact vx_catch hown pre x suf (htab.trans hsplit) (fun z hz => Or.inr ⟨(hpass z hz).1, by obtain ⟨_, nm, h1, h2⟩ := hpass z hz; exact ⟨nm, hts _ h1, h2⟩⟩) hx h0 (hts _ hlink) (hts _ hcast) hce hcv hcl (kk q H locs ls hP hS hl)
theorem v_callW (F : Fx p l s m args meth c cc nl ret own g A) {y : MethodName} {cc2 : ByteArray} {nl2 index n : Nat} {ret2 : Option FieldType} {hh : List (Nat × Nat × Nat × Nat)} {rm : Room} {As : List Value} {post : Option Value → fH → Prop} {rest : List Value} (hlk9 : Cond.methodLink own index y ∈ lw_T) (hin9 : Cond.initialized y.cls ∈ lw_T) (hcw : Cond.codeWith y cc2 nl2 ret2 hh ∈ lw_T) (hy : y.cls ≠ "java/lang/invoke/MethodHandle" ∧ y.cls ≠ "java/lang/invoke/VarHandle" ∧ (parseMethodDescriptor y.desc).map (fun d => d.parameters.length) = some n) (hi : Cond.static y ∈ lw_T) (hM : CMW l g y cc2 nl2 ret2 hh rm As h post) (hN : NC s) (d : decode cc pc = .ok (.invokestatic index, 3)) (hst : st = As.reverse ++ rest) (hn : As.length = n) (hW : (rest.map fun v => v.category).sum ≤ 8) (hfr : rm.frames + 1 ≤ R.frames) (hlo : 8 + (nl2 + 11) + rm.locals ≤ R.locals) (hmc : cells + rm.cells ≤ R.cells) (hms : slots + rm.slots ≤ R.slots) (kk : ∀ v h', post v h' → V p l e R s m args below meth c Q nl g A h' (cells + rm.cells) (slots + rm.slots) (pc + 3) lo (v.toList ++ rest)) : V p l e R s m args below meth c Q nl g A h cells slots pc lo st := by
  subst hst
  refine v_go (av := As.toArray) (px := noX) F (fun H locs ls hP hS hl => ?_) kk (fun _ _ z => z.elim)
  obtain ⟨hx, hb, hml, hr, hown, hlk, hK, hST, hA, hl9, hts⟩ := F
  have hAH : ∀ q, H.size ≤ q → A q := fun q z => hA q (Nat.le_trans hS.1 z)
  refine vx_runSX (Ts := lw_T) (own := own) ⟨hx, hb, hml, hown, hts⟩ (hM hl9 A) ⟨⟨rfl, rfl, hfr, hlo, fun w hw a' U hW9 => ?_, List.mem_cons_self⟩, hts _ hcw, hts _ hin9, ⟨hy.1, hy.2.1⟩, fun sig hs => ?_, hts _ hlk9, hts _ hi⟩
    ⟨w_blind, fun U hU hW9 => ⟨⟨rfl, PS.warm hW9 hU hP hK (hST.at hS) hAH⟩, hN.moved hW9.alike⟩⟩ rfl hn hl.1 rfl (lv_room hW) d ⟨hmc, hms⟩
  · rw [List.mem_singleton] at hw
    subst hw
    exact lwT_warm hW9 hcw (hts _ hcw)
  · have h2 := hy.2.2
    rw [hs] at h2
    exact (Option.some.inj h2).symm
def lI (z : Int) : Int64 := Int64.ofInt z
theorem iI_long {z : Int} (h : -2147483648 ≤ z ∧ z ≤ 2147483647) : (iI z).toInt64 = lI z := by
  rw [← Int64.toInt_inj]
  unfold lI
  rw [Int32.toInt_toInt64, iI_toInt h, Int64.toInt_ofInt_of_le (by omega) (by omega)]
/-- the long array of one place -/
def fO (g : gT) (o : Nat) (v : Int64) : fH := fun q => if q = o then some (.inl (g.2.1 4, 1, .inr (.inl (fun _ => v)))) else none
theorem fO_s {g : gT} {o : Nat} {v : Int64} : fO g o v o = some (.inl (g.2.1 4, 1, .inr (.inl (fun _ => v)))) := if_pos rfl
theorem fO_n {g : gT} {o a : Nat} {v : Int64} (h : fO g o v a ≠ none) : a = o := by
  unfold fO at h
  by_cases z : a = o
  · exact z
  · rw [if_neg z] at h; exact absurd rfl h
theorem v_i2l (F : Fx p l s m args meth c cc nl ret own g A) {z : Int} (hz : -2147483648 ≤ z ∧ z ≤ 2147483647) (d : decode cc pc = .ok (.i2l, 1)) (k : V p l e R s m args below meth c Q nl g A h cells slots (pc + 1) lo (.long (lI z) :: st)) : V p l e R s m args below meth c Q nl g A h cells slots pc lo (.int (iI z) :: st) :=
  fun H locs ls hP hS hl => lv_i2l F.1 F.2.1 d (iI_long hz) (k H locs ls hP hS hl)
theorem v_lconst (F : Fx p l s m args meth c cc nl ret own g A) {n : Fin 2} (z : Int) (hz : Int64.ofNat (n : Nat) = lI z) (d : decode cc pc = .ok (.lconst n, 1)) (k : V p l e R s m args below meth c Q nl g A h cells slots (pc + 1) lo (.long (lI z) :: st)) : V p l e R s m args below meth c Q nl g A h cells slots pc lo st :=
  fun H locs ls hP hS hl => lv_lconst F.1 F.2.1 d hz (k H locs ls hP hS hl)
theorem v_lcmpE (F : Fx p l s m args meth c cc nl ret own g A) {x y : Int64} (hxy : x = y) (d : decode cc pc = .ok (.lcmp, 1)) (k : V p l e R s m args below meth c Q nl g A h cells slots (pc + 1) lo (.int (iI 0) :: st)) : V p l e R s m args below meth c Q nl g A h cells slots pc lo (.long y :: .long x :: st) := by
  subst hxy
  refine fun H locs ls hP hS hl => W.lcmp F.1 F.2.1 d ?_
  have e1 : lg_cmp x x = iI 0 := by
    have h1 : ¬ x < x := fun z => by rw [Int64.lt_iff_toInt_lt] at z; omega
    simp [lg_cmp, h1]
    rfl
  rw [e1]
  exact k H locs ls hP hS hl
theorem v_last (F : Fx p l s m args meth c cc nl ret own g A) {o : Nat} {v x : Int64} {k : fH} (hko : k o = none) (d : decode cc pc = .ok (.lastore, 1)) (kk : V p l e R s m args below meth c Q nl g A (f_or k (fO g o x)) cells slots (pc + 1) lo st) : V p l e R s m args below meth c Q nl g A (f_or k (fO g o v)) cells slots pc lo (.long x :: .int (iI 0) :: .ref o :: st) := by
  intro H locs ls hP hS hl
  obtain ⟨hx, hb, hml, hr, hown, hlk, hK, hST, hA, hl9, hts⟩ := F
  obtain ⟨ws, w1, w2, w3, w4⟩ := f_ws hP
  obtain ⟨q0, hq⟩ := w3 o _ ((f_or_r hko).trans fO_s)
  refine va_last (D := g.1) hx hb hK.1 w1 w2 hS q0 4 hq rfl (iI_in (z := 0) (by decide) (by decide)) d (fun H1 locs1 p1 p2 p3 => kk H1 locs1 ls ?_ p3 hl)
  have e9 : vp_updL (fun _ => v) (iI 0).toNatClampNeg x = fun j => if j = 0 then x else v := by
    funext j
    rw [iI_cl (by decide)]
    rfl
  have e8 : (Sum.inl (g.2.1 4, 1, .inr (.inl (vp_updL (fun _ => v) (iI 0).toNatClampNeg x))) : va_E) = .inl (g.2.1 4, 1, .inr (.inl (fun j => if j = 0 then x else v))) := by rw [e9]
  rw [e8] at p1 p2
  have h9 := f_set w3 hq p1 p2
  intro a e he
  by_cases z : a = o
  · subst z
    have h8 := h9 a _ (f_up_s _ _ _)
    rw [(f_or_r hko).trans fO_s] at he
    cases he
    obtain ⟨q1, q3⟩ := h8
    refine ⟨?_, q3⟩
    have q1 : H1[a]? = some (arrV (g.2.1 4) 1 (fun j => Value.long (if j = 0 then x else v))) := q1
    show H1[a]? = some (arrV (g.2.1 4) 1 (fun _ => Value.long x))
    rw [q1, arrV_ext (f' := fun _ => Value.long x) (fun j hj => by rw [if_pos (by omega)])]
  · refine h9 a e ?_
    rw [f_up_n z]
    unfold f_or fO at he ⊢
    rw [if_neg z] at he ⊢
    exact he
theorem v_lald (F : Fx p l s m args meth c cc nl ret own g A) {o : Nat} {v : Int64} (ho : h o = some (.inl (g.2.1 4, 1, .inr (.inl (fun _ => v))))) (d : decode cc pc = .ok (.laload, 1)) (kk : V p l e R s m args below meth c Q nl g A h cells slots (pc + 1) lo (.long v :: st)) : V p l e R s m args below meth c Q nl g A h cells slots pc lo (.int (iI 0) :: .ref o :: st) := by
  intro H locs ls hP hS hl
  obtain ⟨hx, hb, hml, hr, hown, hlk, hK, hST, hA, hl9, hts⟩ := F
  obtain ⟨ws, w1, w2, w3, w4⟩ := f_ws hP
  obtain ⟨q0, hq⟩ := w3 o _ ho
  exact va_lald (D := g.1) hx hb hK.1 w1 q0 4 hq rfl (iI_in (z := 0) (by decide) (by decide)) d (kk H locs ls hP hS hl)
theorem v_newl (F : Fx p l s m args meth c cc nl ret own g A) (d : decode cc pc = .ok (.newarray .long, 2)) (h1 : cells + 1 ≤ R.cells) (h2 : slots + 1 ≤ R.slots) (kk : ∀ q, h q = none → V p l e R s m args below meth c Q nl g A (f_up h q (.inl (g.2.1 4, 1, .inr (.inl (fun _ => 0))))) (cells + 1) (slots + 1) (pc + 2) lo (.ref q :: st)) : V p l e R s m args below meth c Q nl g A h cells slots pc lo (.int (iI 1) :: st) := by
  intro H locs ls hP hS hl
  obtain ⟨hx, hb, hml, hr, hown, hlk, hK, hST, hA, hl9, hts⟩ := F
  obtain ⟨ws, w1, w2, w3, w4⟩ := f_ws hP
  refine va_newa (D := g.1) (atype := .long) (ty := .long) (N' := 1) (a0 := (1, .inr (.inl (fun _ => 0)))) hx hb (hts _ tw_ac4) rfl hK.1 w1 w2 hS hA (fun cA => rfl) (by decide) (by decide) (by decide) h1 h2 d (fun q cA H1 k1 p1 p2 p3 => ?_)
  have e1 : s.vm.findClass ("[" ++ FieldType.toString .long) = some (g.2.1 4) := (hK.1.2 4 (g.2.1 4, .long) rfl).2
  have e2 : s.vm.findClass ("[" ++ FieldType.toString .long) = some cA := (k1.2 5 (cA, .long) rfl).2
  cases Option.some.inj (e1.symm.trans e2)
  obtain ⟨n1, n2⟩ := f_add w3 p1 p2
  exact kk q n1 H1 locs ls n2 p3 hl
/-- the script -/
def sX (xs : Nat → Int32) (z : Int) : Int := (xs z.toNat).toInt
theorem sX_rng (xs : Nat → Int32) (z : Int) : -2147483648 ≤ sX xs z ∧ sX xs z ≤ 2147483647 := by
  unfold sX
  have h1 := Int32.le_toInt (xs z.toNat)
  have h2 := Int32.toInt_lt (xs z.toNat)
  omega
theorem v_sld (F : Fx p l s m args meth c cc nl ret own g A) {b L : Nat} {xs : Nat → Int32} (hX : va_X b L xs s s.heap) (hbl : b < s.heap.size) (hbA : ¬ A b) {z : Int} (hz : 0 ≤ z ∧ z < L) (hL : L ≤ 2560) (d : decode cc pc = .ok (.iaload, 1)) (kk : V p l e R s m args below meth c Q nl g A h cells slots (pc + 1) lo (.int (iI (sX xs z)) :: st)) : V p l e R s m args below meth c Q nl g A h cells slots pc lo (.int (iI z) :: .ref b :: st) := by
  intro H locs ls hP hS hl
  refine va_sld F.1 F.2.1 hX hbl hbA hS (iI_in hz (by omega)) d ?_
  have e1 : xs (iI z).toNatClampNeg = iI (sX xs z) := by
    rw [iI_cl (by omega)]
    unfold sX iI
    exact (Int32.ofInt_toInt _).symm
  rw [e1]
  exact kk H locs ls hP hS hl
theorem v_slen (F : Fx p l s m args meth c cc nl ret own g A) {b L : Nat} {xs : Nat → Int32} (hX : va_X b L xs s s.heap) (hbl : b < s.heap.size) (hbA : ¬ A b) (d : decode cc pc = .ok (.arraylength, 1)) (kk : V p l e R s m args below meth c Q nl g A h cells slots (pc + 1) lo (.int (iI (L : Int)) :: st)) : V p l e R s m args below meth c Q nl g A h cells slots pc lo (.ref b :: st) := by
  intro H locs ls hP hS hl
  refine va_slen F.1 F.2.1 hX hbl hbA hS d ?_
  rw [iI_nat]
  exact kk H locs ls hP hS hl
theorem v_iand (F : Fx p l s m args meth c cc nl ret own g A) {a b : Int32} (d : decode cc pc = .ok (.iand, 1)) (kk : ∀ x : Int32, V p l e R s m args below meth c Q nl g A h cells slots (pc + 1) lo (.int x :: st)) : V p l e R s m args below meth c Q nl g A h cells slots pc lo (.int b :: .int a :: st) :=
  fun H locs ls hP hS hl => lv_iand F.1 F.2.1 d (kk _ H locs ls hP hS hl)
theorem v_tin (F : Fx p l s m args meth c cc nl ret own g A) {dflt lo9 hi off : Int} {offs : Array Int} {len : Nat} {x : Int32} (tgt : Nat) (d : decode cc pc = .ok (.tableswitch dflt lo9 hi offs, len)) (h1 : ¬ x.toInt < lo9) (h2 : ¬ hi < x.toInt) (ho : offs[(x.toInt - lo9).toNat]? = some off) (ht : (pc : Int) + off = (tgt : Int)) (k : V p l e R s m args below meth c Q nl g A h cells slots tgt lo st) : V p l e R s m args below meth c Q nl g A h cells slots pc lo (.int x :: st) :=
  fun H locs ls hP hS hl => lv_tableIn F.1 F.2.1 d h1 h2 ho ht (k H locs ls hP hS hl)
theorem v_tout (F : Fx p l s m args meth c cc nl ret own g A) {dflt lo9 hi : Int} {offs : Array Int} {len : Nat} {x : Int32} (tgt : Nat) (d : decode cc pc = .ok (.tableswitch dflt lo9 hi offs, len)) (h1 : x.toInt < lo9 ∨ hi < x.toInt) (ht : (pc : Int) + dflt = (tgt : Int)) (k : V p l e R s m args below meth c Q nl g A h cells slots tgt lo st) : V p l e R s m args below meth c Q nl g A h cells slots pc lo (.int x :: st) :=
  fun H locs ls hP hS hl => lv_tableOut F.1 F.2.1 d h1 ht (k H locs ls hP hS hl)
end VLAW
