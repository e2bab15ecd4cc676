/-! ===== the law: rows of its own, contracts of methods with a table ===== -/
/-- a contract of a method with a table, that never throws -/
def CMW (l : Launch) (g : gT) (y : MethodName) (cc : ByteArray) (nl : Nat) (ret : Option FieldType) (hh : List (Nat × Nat × Nat × Nat)) (rm : Room) (av : List Value) (h : fH) (post : Option Value → fH → Prop) : Prop :=
  l.stackTraces = false → ∀ A : Nat → Prop, vx_Met l y [.codeWith y cc nl ret hh] rm (va_Pc av (PS g A h)) (q_Q g A post) (q_X g A noX) rm.cells rm.slots A
theorem CMW.of {l : Launch} {g : gT} {h : fH} {lo : List (Option Value)} {post : Option Value → fH → Prop} {y : MethodName} {cc2 : ByteArray} {nl2 : Nat} {ret2 : Option FieldType} {hh : List (Nat × Nat × Nat × Nat)} {rm : Room} {av : List Value} (hy : plainName y.cls = true) (hn : av.length ≤ nl2) (hcat : ∀ v ∈ av, v.category = 1) (hlo : lo = av.map some ++ List.replicate (nl2 - av.length) none)
    (body : ∀ (p : Program) (e : Env) (s : State) (m : MethodId) (below : List Frame) (meth : Method) (c : Code) (A : Nat → Prop), Fx p l s m av.toArray meth c cc2 nl2 ret2 y.cls g A → c.exceptionTable.toList = tableOf hh → VE p l e rm s m av.toArray below meth c nl2 g A h 0 0 0 lo [] post noX rm.cells rm.slots) : CMW l g y cc2 nl2 ret2 hh rm av h post := by
  intro hl A
  refine vx_ofWH hy rfl ?_
  intro p e s m args below meth c s₁ B hml hv
  obtain ⟨rfl, hP, hK, hST, hA⟩ := hv
  have hown : s.vm.findClass y.cls = some m.cls := findClass_of_methodNamed B.named
  have htab : c.exceptionTable.toList = tableOf hh := vx_table (x := y) B (atoms_spec (ws := [.codeWith y cc2 nl2 ret2 hh]) B.pre _ List.mem_cons_self)
  have k := body p e s m below meth c A ⟨B.exec, B.bytes, hml, B.returns, hown, B.notSynchronized, hK, hST, hA, hl, fun w hw => va_lwT (u := s) (U := s) hw rfl (hK.2 w hw)⟩ htab
  rw [lg_entry_eq]
  subst hlo
  exact k s.heap [] _ hP va_S.rf (v_lo_entry hn hcat)
theorem CMW.frame {l : Launch} {g : gT} {y : MethodName} {cc : ByteArray} {nl : Nat} {ret : Option FieldType} {hh : List (Nat × Nat × Nat × Nat)} {rm : Room} {av : List Value} {h k : fH} {post : Option Value → fH → Prop} (hM : CMW l g y cc nl ret hh rm av h post) (hd : ∀ a, k a ≠ none → h a = none) :
    CMW l g y cc nl ret hh rm av (f_or h k) (fun v h2 => ∃ h', post v h' ∧ h2 = f_or h' k ∧ ∀ a, k a ≠ none → h' a = none) := by
  intro hl A p e ha hc hk s m args below hf hap hP hK
  obtain ⟨hav, hat, hKK, hST, hA⟩ := hP
  have hk0 : f_at g.1 A (f_or (fun _ => none) k) s.heap := fun a e he => by
    rw [f_or_r rfl] at he
    refine hat a e ?_
    rw [f_or_r (hd a (by rw [he]; exact fun z => by cases z))]
    exact he
  have hsz : ∀ q, s.heap.size ≤ q → k q = none := fun q hq => by
    cases hkq : k q with
    | none => rfl
    | some e =>
      have := (hk0 q e (by rw [f_or_r rfl]; exact hkq)).1.lt
      exact absurd this (Nat.not_lt.mpr hq)
  have hdis : ∀ h' : fH, ∀ H1 : Heap, f_at g.1 (fun q => A q ∧ k q = none) h' H1 → ∀ a, k a ≠ none → h' a = none := fun h' H1 h1 a ka => by
    cases hq : h' a with
    | none => rfl
    | some e => exact absurd (h1 a e hq).2.2 ka
  have hP' : va_Pc av (PS g (fun q => A q ∧ k q = none) h) args s := by
    refine ⟨hav, fun a e he => ?_, hKK, hST.nar (fun q z => z.1), fun q hq => ⟨hA q hq, hsz q hq⟩⟩
    obtain ⟨p1, p2⟩ := hat a e (f_or_l he)
    refine ⟨p1, p2, ?_⟩
    cases hkq : k a with
    | none => rfl
    | some e' =>
      have := hd a (by rw [hkq]; exact fun z => by cases z)
      rw [this] at he
      cases he
  obtain ⟨n, o, h1, h2, h3, h4⟩ := hM hl (fun q => A q ∧ k q = none) p e ha hc hk s m args below hf hap hP' hK
  refine ⟨n, o, h1, h2, h3, ?_⟩
  rcases h4 with ⟨⟨v, h', e1, e2, e3, e4⟩, L, hL, hL2⟩ | ⟨q, e1, E, ce, L, ⟨h', e2, e3, e4⟩, e5⟩
  · exact Or.inl ⟨⟨v, f_or h' k, e1, ⟨h', e2, rfl, hdis _ _ e3⟩, f_at_or e3 hk0 (fun q q1 q2 => e4.2 q q1 q2), e4.1, fun q q1 q2 => e4.2 q q1 (fun z => q2 z.1)⟩, L, hL, fun q hq => (hL2 q hq).1⟩
  · exact e2.elim
theorem CMW.mono {l : Launch} {g : gT} {y : MethodName} {cc : ByteArray} {nl : Nat} {ret : Option FieldType} {hh : List (Nat × Nat × Nat × Nat)} {rm : Room} {av : List Value} {h : fH} {post post' : Option Value → fH → Prop} (hM : CMW l g y cc nl ret hh rm av h post) (hp : ∀ v h', post v h' → post' v h') : CMW l g y cc nl ret hh rm av h post' := by
  intro hl A p e ha hc hk s m args below hf hap hP hK
  obtain ⟨n, o, h1, h2, h3, h4⟩ := hM hl A p e ha hc hk s m args below hf hap hP hK
  refine ⟨n, o, h1, h2, h3, ?_⟩
  rcases h4 with ⟨⟨v, h', e1, e2, e3, e4⟩, hL⟩ | ⟨q, e1, E, ce, L, ⟨h', e2, e3, e4⟩, e5⟩
  · exact Or.inl ⟨⟨v, h', e1, hp v h' e2, e3, e4⟩, hL⟩
  · exact e2.elim
/-- two heaps apart, the other way round -/
theorem f_or_comm {h k : fH} (hd : ∀ a, k a ≠ none → h a = none) : f_or h k = f_or k h := by
  funext a
  unfold f_or
  cases hk : k a with
  | none => cases h a <;> rfl
  | some e => rw [hd a (by rw [hk]; exact fun z => by cases z)]; rfl
theorem f_or_apart {h k : fH} (hd : ∀ a, k a ≠ none → h a = none) : ∀ a, h a ≠ none → k a = none := fun a ha => by
  cases hk : k a with
  | none => rfl
  | some e => exact absurd (hd a (by rw [hk]; exact fun z => by cases z)) ha
section VLAW
variable {p : Program} {l : Launch} {e : Env} {R : Room} {s : State} {m : MethodId} {args : Array Value} {below : List Frame} {meth : Method} {c : Code} {Q : State → Prop} {nl : Nat} {g : gT} {A : Nat → Prop} {h : fH} {cells slots pc : Nat} {lo lo' : List (Option Value)} {st : List Value} {cc : ByteArray} {ret : Option FieldType} {own : String}
theorem v_catch (F : Fx p l s m args meth c cc nl ret own g A) {hh : List (Nat × Nat × Nat × Nat)} {E name : String} (htab : c.exceptionTable.toList = tableOf hh) (pre : List ExceptionTableEntry) (x : ExceptionTableEntry) (suf : List ExceptionTableEntry) (hsplit : tableOf hh = pre ++ x :: suf) (hpass : ∀ z ∈ pre, z.catchType ≠ 0 ∧ ∃ nm : String, Cond.classLink own z.catchType nm ∈ lw_T ∧ va_Nc E nm s) (hx : covers x pc = true) (h0 : x.catchType ≠ 0) (hlink : Cond.classLink own x.catchType name ∈ lw_T) (hcast : Cond.castable E name ∈ lw_T) (kk : ∀ q, V p l e R s m args below meth c Q nl g A h cells slots x.handlerPc lo [.ref q]) : VX p l e R s m args below meth c Q nl g A h cells slots pc lo st E := by
  intro H locs ls ce q hP hS hl hce hcv hcl
  obtain ⟨hx9, hb, hml, hr, hown, hlk, hK, hST, hA, hl9, hts⟩ := F
  exact vx_catch hown pre x suf (htab.trans hsplit) (fun z hz => Or.inr ⟨(hpass z hz).1, by obtain ⟨_, nm, h1, h2⟩ := hpass z hz; exact ⟨nm, hts _ h1, h2⟩⟩) hx h0 (hts _ hlink) (hts _ hcast) hce hcv hcl (kk q H locs ls hP hS hl)
theorem v_callW (F : Fx p l s m args meth c cc nl ret own g A) {y : MethodName} {cc2 : ByteArray} {nl2 index n : Nat} {ret2 : Option FieldType} {hh : List (Nat × Nat × Nat × Nat)} {rm : Room} {As : List Value} {post : Option Value → fH → Prop} {rest : List Value} (hlk9 : Cond.methodLink own index y ∈ lw_T) (hin9 : Cond.initialized y.cls ∈ lw_T) (hcw : Cond.codeWith y cc2 nl2 ret2 hh ∈ lw_T) (hy : y.cls ≠ "java/lang/invoke/MethodHandle" ∧ y.cls ≠ "java/lang/invoke/VarHandle" ∧ (parseMethodDescriptor y.desc).map (fun d => d.parameters.length) = some n) (hi : Cond.static y ∈ lw_T) (hM : CMW l g y cc2 nl2 ret2 hh rm As h post) (d : decode cc pc = .ok (.invokestatic index, 3)) (hst : st = As.reverse ++ rest) (hn : As.length = n) (hW : (rest.map fun v => v.category).sum ≤ 8) (hfr : rm.frames + 1 ≤ R.frames) (hlo : 8 + (nl2 + 11) + rm.locals ≤ R.locals) (hmc : cells + rm.cells ≤ R.cells) (hms : slots + rm.slots ≤ R.slots) (kk : ∀ v h', post v h' → V p l e R s m args below meth c Q nl g A h' (cells + rm.cells) (slots + rm.slots) (pc + 3) lo (v.toList ++ rest)) : V p l e R s m args below meth c Q nl g A h cells slots pc lo st := by
  subst hst
  refine v_go (av := As.toArray) (px := noX) F (fun H locs ls hP hS hl => ?_) kk (fun _ _ z => z.elim)
  obtain ⟨hx, hb, hml, hr, hown, hlk, hK, hST, hA, hl9, hts⟩ := F
  have hAH : ∀ q, H.size ≤ q → A q := fun q z => hA q (Nat.le_trans hS.1 z)
  refine vx_runSX (Ts := lw_T) (own := own) ⟨hx, hb, hml, hown, hts⟩ (hM hl9 A) ⟨⟨rfl, rfl, hfr, hlo, fun w hw a' U hW9 => ?_, List.mem_cons_self⟩, hts _ hcw, hts _ hin9, ⟨hy.1, hy.2.1⟩, fun sig hs => ?_, hts _ hlk9, hts _ hi⟩
    ⟨q_blind, fun U hU hW9 => ⟨rfl, PS.warm hW9 hU hP hK (hST.at hS) hAH⟩⟩ rfl hn hl.1 rfl (lv_room hW) d ⟨hmc, hms⟩
  · rw [List.mem_singleton] at hw
    subst hw
    exact lwT_warm hW9 hcw (hts _ hcw)
  · have h2 := hy.2.2
    rw [hs] at h2
    exact (Option.some.inj h2).symm
/-- the script -/
def sX (xs : Nat → Int32) (z : Int) : Int := (xs z.toNat).toInt
theorem sX_rng (xs : Nat → Int32) (z : Int) : -2147483648 ≤ sX xs z ∧ sX xs z ≤ 2147483647 := by
  unfold sX
  have h1 := Int32.le_toInt (xs z.toNat)
  have h2 := Int32.toInt_lt (xs z.toNat)
  omega
theorem v_sld (F : Fx p l s m args meth c cc nl ret own g A) {b L : Nat} {xs : Nat → Int32} (hX : va_X b L xs s s.heap) (hbl : b < s.heap.size) (hbA : ¬ A b) {z : Int} (hz : 0 ≤ z ∧ z < L) (hL : L ≤ 260) (d : decode cc pc = .ok (.iaload, 1)) (kk : V p l e R s m args below meth c Q nl g A h cells slots (pc + 1) lo (.int (iI (sX xs z)) :: st)) : V p l e R s m args below meth c Q nl g A h cells slots pc lo (.int (iI z) :: .ref b :: st) := by
  intro H locs ls hP hS hl
  refine va_sld F.1 F.2.1 hX hbl hbA hS (iI_in hz (by omega)) d ?_
  have e1 : xs (iI z).toNatClampNeg = iI (sX xs z) := by
    rw [iI_cl (by omega)]
    unfold sX iI
    exact (Int32.ofInt_toInt _).symm
  rw [e1]
  exact kk H locs ls hP hS hl
theorem v_slen (F : Fx p l s m args meth c cc nl ret own g A) {b L : Nat} {xs : Nat → Int32} (hX : va_X b L xs s s.heap) (hbl : b < s.heap.size) (hbA : ¬ A b) (d : decode cc pc = .ok (.arraylength, 1)) (kk : V p l e R s m args below meth c Q nl g A h cells slots (pc + 1) lo (.int (iI (L : Int)) :: st)) : V p l e R s m args below meth c Q nl g A h cells slots pc lo (.ref b :: st) := by
  intro H locs ls hP hS hl
  refine va_slen F.1 F.2.1 hX hbl hbA hS d ?_
  rw [iI_nat]
  exact kk H locs ls hP hS hl
end VLAW
/-- and with a mask, a shift: as whole numbers -/
def maI (a m : Int) : Int := (iI a &&& iI m).toInt
def shI (a s : Int) : Int := (iI a >>> (iI s &&& 31)).toInt
theorem iI_self (x : Int32) : x = iI x.toInt := (Int32.ofInt_toInt x).symm
theorem toI_rng (x : Int32) : -2147483648 ≤ x.toInt ∧ x.toInt ≤ 2147483647 := by
  have h1 := Int32.le_toInt x
  have h2 := Int32.toInt_lt x
  omega
theorem shI_rng (a s : Int) : -2147483648 ≤ shI a s ∧ shI a s ≤ 2147483647 := toI_rng _
theorem maI_rng (a : Int) {m : Int} (hm : 0 ≤ m ∧ m ≤ 65535) : 0 ≤ maI a m ∧ maI a m ≤ m := by
  have e1 : (iI a &&& iI m).toBitVec = (iI a).toBitVec &&& (iI m).toBitVec := rfl
  have hb : (iI m).toBitVec.toNat = m.toNat := by
    have h1 := iI_toInt (z := m) (by omega)
    have h2 : (iI m).toInt = (iI m).toBitVec.toInt := rfl
    rw [h2, BitVec.toInt_eq_toNat_cond] at h1
    have := (iI m).toBitVec.isLt
    split at h1 <;> omega
  have h3 : ((iI a).toBitVec &&& (iI m).toBitVec).toNat ≤ m.toNat := by
    rw [BitVec.toNat_and, ← hb]
    exact Nat.and_le_right
  unfold maI
  have h4 : (iI a &&& iI m).toInt = ((iI a).toBitVec &&& (iI m).toBitVec).toInt := rfl
  rw [h4, BitVec.toInt_eq_toNat_cond, if_pos (by omega)]
  omega
section VBITS
variable {p : Program} {l : Launch} {e : Env} {R : Room} {s : State} {m : MethodId} {args : Array Value} {below : List Frame} {meth : Method} {c : Code} {Q : State → Prop} {nl : Nat} {g : gT} {A : Nat → Prop} {h : fH} {cells slots pc : Nat} {lo lo' : List (Option Value)} {st : List Value} {cc : ByteArray} {ret : Option FieldType} {own : String}
theorem v_iandM (F : Fx p l s m args meth c cc nl ret own g A) {a b : Int} (d : decode cc pc = .ok (.iand, 1)) (k : V p l e R s m args below meth c Q nl g A h cells slots (pc + 1) lo (.int (iI (maI a b)) :: st)) : V p l e R s m args below meth c Q nl g A h cells slots pc lo (.int (iI b) :: .int (iI a) :: st) :=
  fun H locs ls hP hS hl => lv_iand F.1 F.2.1 d (by rw [iI_self (iI a &&& iI b)]; exact k H locs ls hP hS hl)
theorem v_ishrM (F : Fx p l s m args meth c cc nl ret own g A) {a b : Int} (d : decode cc pc = .ok (.ishr, 1)) (k : V p l e R s m args below meth c Q nl g A h cells slots (pc + 1) lo (.int (iI (shI a b)) :: st)) : V p l e R s m args below meth c Q nl g A h cells slots pc lo (.int (iI b) :: .int (iI a) :: st) :=
  fun H locs ls hP hS hl => lv_ishr F.1 F.2.1 d (by rw [iI_self (iI a >>> (iI b &&& 31))]; exact k H locs ls hP hS hl)
/-- the same number under another name, in its range -/
theorem v_norm (F : Fx p l s m args meth c cc nl ret own g A) {a : Int} (k : ∀ z : Int, iI a = iI z → -2147483648 ≤ z ∧ z ≤ 2147483647 → V p l e R s m args below meth c Q nl g A h cells slots pc lo (.int (iI z) :: st)) : V p l e R s m args below meth c Q nl g A h cells slots pc lo (.int (iI a) :: st) := by
  have h1 := iI_self (iI a)
  rw [h1]
  exact k _ h1 (toI_rng _)
theorem shl_p28 {r : Int} (h : 0 ≤ r ∧ r ≤ 8) : (iI 1) <<< ((iI r) &&& 31) = iI (p2 r) := by
  rcases (show r = 0 ∨ r = 1 ∨ r = 2 ∨ r = 3 ∨ r = 4 ∨ r = 5 ∨ r = 6 ∨ r = 7 ∨ r = 8 by omega) with rfl | rfl | rfl | rfl | rfl | rfl | rfl | rfl | rfl <;> decide
theorem v_ishl8 (F : Fx p l s m args meth c cc nl ret own g A) {r : Int} (d : decode cc pc = .ok (.ishl, 1)) (hr : 0 ≤ r ∧ r ≤ 8) (k : V p l e R s m args below meth c Q nl g A h cells slots (pc + 1) lo (.int (iI (p2 r)) :: st)) : V p l e R s m args below meth c Q nl g A h cells slots pc lo (.int (iI r) :: .int (iI 1) :: st) :=
  fun H locs ls hP hS hl => lv_ishl F.1 F.2.1 d (by rw [shl_p28 hr]; exact k H locs ls hP hS hl)
end VBITS
/-- a bit of a set of eight -/
theorem bit_at {S j : Int} (hS : 0 ≤ S ∧ S < 256) (hj : 0 ≤ j ∧ j < 8) : maI (shI S j) 1 = S / p2 j % 2 := by
  have h := (by decide +kernel : ∀ S : Fin 256, ∀ j : Fin 8, maI (shI ((S : Nat) : Int) ((j : Nat) : Int)) 1 = ((S : Nat) : Int) / (2 : Int) ^ (j : Nat) % 2)
  have h1 := h ⟨S.toNat, by omega⟩ ⟨j.toNat, by omega⟩
  simp only [] at h1
  rw [show ((S.toNat : Nat) : Int) = S by omega, show ((j.toNat : Nat) : Int) = j by omega] at h1
  exact h1
/-- the class's state, with other cells beside it -/
def SL (g : gT) (x : Nat) (h : fH) (σ : sT) (k : fH) : Prop := ∃ h0, SX g x h0 σ ∧ h = f_or h0 k ∧ ∀ a, k a ≠ none → h0 a = none
theorem SX.iv {g : gT} {x : Nat} {h : fH} {σ : sT} (hX : SX g x h σ) : IV σ := by
  obtain ⟨P, K, r, cp, b, b', τ, rfl, rfl, hk, hR⟩ := hX
  exact hR.2.2.1
theorem SX.obj {g : gT} {x : Nat} {h : fH} {σ : sT} (hX : SX g x h σ) : ∃ fs, h x = some (.inr (7, fs)) := by
  obtain ⟨P, K, r, cp, b, b', τ, rfl, rfl, hk, hR⟩ := hX
  exact ⟨_, ch_0 hk⟩
theorem SX.n0 {g : gT} {x : Nat} {h : fH} {σ : sT} {v : Int} (hB : MB σ) (hX : SX g x h (su σ 0 0 v)) : SX g x h σ := by
  have h1 : (0 : Int) ≤ σ 0 0 ∧ σ 0 0 ≤ 3 := hB 0 0 (by decide) (by decide)
  have h2 := hX.c0 h1
  have e : su (su σ 0 0 v) 0 0 (σ 0 0) = σ := by
    funext f z
    by_cases hf : f = 0
    · subst hf
      rw [su_s, su_s]
      by_cases hz : z = 0
      · subst hz; rw [iup_s]
      · rw [iup_n hz, iup_n hz]
    · rw [su_n hf, su_n hf]
  rw [e] at h2
  exact h2
section SLL
variable {l : Launch} {g : gT} {x : Nat} {h : fH} {σ : sT} {k : fH}
theorem SL.iv (hX : SL g x h σ k) : IV σ := by obtain ⟨h0, h1, -⟩ := hX; exact h1.iv
theorem SL.obj (hX : SL g x h σ k) : ∃ fs, h x = some (.inr (7, fs)) := by
  obtain ⟨h0, h1, rfl, -⟩ := hX
  obtain ⟨fs, h2⟩ := h1.obj
  exact ⟨fs, f_or_l h2⟩
theorem SL.cel (hX : SL g x h σ k) {a : Nat} {e : va_E} (ha : k a = some e) : h a = some e := by
  obtain ⟨h0, h1, rfl, h2⟩ := hX
  rw [f_or_r (h2 a (by rw [ha]; exact fun z => by cases z))]
  exact ha
theorem SL.up (hX : SL g x h σ k) {a : Nat} {e e' : va_E} (ha : k a = some e) : SL g x (f_up h a e') σ (f_up k a e') := by
  obtain ⟨h0, h1, rfl, h2⟩ := hX
  have h3 : h0 a = none := h2 a (by rw [ha]; exact fun z => by cases z)
  refine ⟨h0, h1, ?_, fun b hb => ?_⟩
  · funext q
    by_cases z : q = a
    · subst z; rw [f_up_s, f_or_r h3, f_up_s]
    · rw [f_up_n z]
      unfold f_or
      rw [f_up_n z]
  · by_cases z : b = a
    · rw [z]; exact h3
    · rw [f_up_n z] at hb; exact h2 b hb
theorem SL.new (hX : SL g x h σ k) {a : Nat} {e : va_E} (ha : h a = none) : SL g x (f_up h a e) σ (f_up k a e) := by
  obtain ⟨h0, h1, rfl, h2⟩ := hX
  have h3 : h0 a = none := by
    cases hq : h0 a with
    | none => rfl
    | some e9 => rw [f_or_l hq] at ha; cases ha
  refine ⟨h0, h1, ?_, fun b hb => ?_⟩
  · funext q
    by_cases z : q = a
    · subst z; rw [f_up_s, f_or_r h3, f_up_s]
    · rw [f_up_n z]
      unfold f_or
      rw [f_up_n z]
  · by_cases z : b = a
    · rw [z]; exact h3
    · rw [f_up_n z] at hb; exact h2 b hb
theorem SL.n0 {v : Int} (hB : MB σ) (hX : SL g x h (su σ 0 0 v) k) : SL g x h σ k := by
  obtain ⟨h0, h1, h2⟩ := hX
  exact ⟨h0, h1.n0 hB, h2⟩
theorem SL.c0 {v : Int} (hv : 0 ≤ v ∧ v ≤ 3) (hX : SL g x h σ k) : SL g x h (su σ 0 0 v) k := by
  obtain ⟨h0, h1, h2⟩ := hX
  exact ⟨h0, h1.c0 hv, h2⟩
/-- a call that only asks -/
theorem CM.ask {y : MethodName} {cc : ByteArray} {nl : Nat} {ret : Option FieldType} {rm : Room} {av : List Value} {C A c : Int} {px : String → fH → Prop} {h0 : fH} (hB : MB σ) (hJ : CM l g y cc nl ret rm av h0 (fun v h1 => C = 0 ∧ v = some (.int (iI A)) ∧ SX g x h1 (su σ 0 0 c)) px) (hpx : ∀ E h1, px E h1 → False) (hd : ∀ a, k a ≠ none → h0 a = none) : CM l g y cc nl ret rm av (f_or h0 k) (fun v h1 => v = some (.int (iI A)) ∧ SL g x h1 σ k) noX := by
  refine CM.mono (CM.frame hJ hd) ?_ ?_
  · rintro v h2 ⟨h1, ⟨_, rfl, h3⟩, rfl, h4⟩
    exact ⟨_, ⟨rfl, h1, h3.n0 hB, rfl, h4⟩, fun a e z => z⟩
  · rintro E h2 ⟨h1, h3, -⟩
    exact (hpx E h1 h3).elim
/-- a call that changes the state -/
theorem CM.chg {y : MethodName} {cc : ByteArray} {nl : Nat} {ret : Option FieldType} {rm : Room} {av : List Value} {C A : Int} {σ' : sT} {px : String → fH → Prop} {h0 : fH} (hJ : CM l g y cc nl ret rm av h0 (fun v h1 => C = 0 ∧ v = some (.int (iI A)) ∧ SX g x h1 σ') px) (hpx : ∀ E h1, px E h1 → False) (hd : ∀ a, k a ≠ none → h0 a = none) : CM l g y cc nl ret rm av (f_or h0 k) (fun v h1 => v = some (.int (iI A)) ∧ SL g x h1 σ' k) noX := by
  refine CM.mono (CM.frame hJ hd) ?_ ?_
  · rintro v h2 ⟨h1, ⟨_, rfl, h3⟩, rfl, h4⟩
    exact ⟨_, ⟨rfl, h1, h3, rfl, h4⟩, fun a e z => z⟩
  · rintro E h2 ⟨h1, h3, -⟩
    exact (hpx E h1 h3).elim
end SLL
