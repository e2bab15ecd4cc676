section VCALLS
variable {p : Program} {l : Launch} {e : Env} {R : Room} {s : State} {m : MethodId} {args : Array Value} {below : List Frame} {meth : Method} {c : Code} {Q : State → Prop} {nl : Nat} {g : gT} {A : Nat → Prop} {h : fH} {cells slots pc : Nat} {lo lo' : List (Option Value)} {st : List Value} {cc : ByteArray} {ret : Option FieldType} {own : String}
/-- a new object's link -/
def FN (own : String) (index ci N : Nat) (fs : List Value) : Prop := ∃ (C : String) (T : u_T) (tf : Nat → FieldType), vwCl[ci]? = some (C, T, N) ∧ (∀ w ∈ u_ws C T N, w ∈ lw_T) ∧ (∀ k, k < N → parseFieldDescriptor (T k).2.2.1 = some (tf k)) ∧ Cond.classLink own index C ∈ lw_T ∧ Cond.instantiable C N ∈ lw_T ∧ Cond.initialized C ∈ lw_T ∧ ∀ j, j < N → defaultValue (tf j) = vp_V fs j
theorem v_new (F : Fx p l s m args meth c cc nl ret own g A) {index ci N : Nat} {fs : List Value} (fn : FN own index ci N fs) (d : decode cc pc = .ok (.new index, 3)) (h1 : cells + 1 ≤ R.cells) (h2 : slots + N ≤ R.slots) (kk : ∀ q, h q = none → V p l e R s m args below meth c Q nl g A (f_up h q (.inr (ci, fs))) (cells + 1) (slots + N) (pc + 3) lo (.ref q :: st)) : V p l e R s m args below meth c Q nl g A h cells slots pc lo st := by
  intro H locs ls hP hS hl
  obtain ⟨hx, hb, hml, hr, hown, hlk, hK, hST, hA, hl9, hts⟩ := F
  obtain ⟨C, T, tf, e1, e2, e3, e4, e5, e6, e7⟩ := fn
  obtain ⟨ws, w1, w2, w3, w4⟩ := f_ws hP
  refine va_new (D := g.1) hx hb hts e2 tf e3 hown (hts _ e4) (hts _ e5) (hts _ e6) hK.1 w1 w2 hS hA e1 e7 h1 h2 d (fun q H1 p1 p2 p3 => ?_)
  obtain ⟨n1, n2⟩ := f_add w3 p1 p2
  exact kk q n1 H1 locs ls n2 p3 hl

theorem v_newi (F : Fx p l s m args meth c cc nl ret own g A) {n : Nat} (d : decode cc pc = .ok (.newarray .int, 2)) (hn : n ≤ 1000) (h1 : cells + 1 ≤ R.cells) (h2 : slots + n ≤ R.slots) (kk : ∀ q, h q = none → V p l e R s m args below meth c Q nl g A (f_up h q (iar (g.2.1 0) n (fun _ => 0))) (cells + 1) (slots + n) (pc + 2) lo (.ref q :: st)) : V p l e R s m args below meth c Q nl g A h cells slots pc lo (.int (iI (n : Int)) :: st) := by
  intro H locs ls hP hS hl
  obtain ⟨hx, hb, hml, hr, hown, hlk, hK, hST, hA, hl9, hts⟩ := F
  obtain ⟨ws, w1, w2, w3, w4⟩ := f_ws hP
  have e0 : (iI (n : Int)).toNatClampNeg = n := by rw [iI_cl (by omega)]; omega
  refine va_newa (D := g.1) (atype := .int) (ty := .int) (a0 := (n, .inl (fun k => iI ((fun _ => 0 : Int → Int) (k : Int))))) hx hb (hts _ tw_ac0) rfl hK.1 w1 w2 hS hA (fun cA => rfl) (by rw [iI_0, iI_lt (by omega) (by omega)]; omega) e0 (Nat.le_trans (Nat.mul_le_mul hn (show componentBytes .int ≤ 4 by decide)) (by decide)) h1 h2 d (fun q cA H1 k1 p1 p2 p3 => ?_)
  have e1 : s.vm.findClass ("[" ++ FieldType.toString .int) = some (g.2.1 0) := (hK.1.2 0 (g.2.1 0, .int) rfl).2
  have e2 : s.vm.findClass ("[" ++ FieldType.toString .int) = some cA := (k1.2 4 (cA, .int) rfl).2
  cases Option.some.inj (e1.symm.trans e2)
  obtain ⟨n1, n2⟩ := f_add w3 p1 p2
  exact kk q n1 H1 locs ls n2 p3 hl

theorem v_newz (F : Fx p l s m args meth c cc nl ret own g A) {n : Nat} (d : decode cc pc = .ok (.newarray .boolean, 2)) (hn : n ≤ 1000) (h1 : cells + 1 ≤ R.cells) (h2 : slots + n ≤ R.slots) (kk : ∀ q, h q = none → V p l e R s m args below meth c Q nl g A (f_up h q (iar (g.2.1 1) n (fun _ => 0))) (cells + 1) (slots + n) (pc + 2) lo (.ref q :: st)) : V p l e R s m args below meth c Q nl g A h cells slots pc lo (.int (iI (n : Int)) :: st) := by
  intro H locs ls hP hS hl
  obtain ⟨hx, hb, hml, hr, hown, hlk, hK, hST, hA, hl9, hts⟩ := F
  obtain ⟨ws, w1, w2, w3, w4⟩ := f_ws hP
  have e0 : (iI (n : Int)).toNatClampNeg = n := by rw [iI_cl (by omega)]; omega
  refine va_newa (D := g.1) (atype := .boolean) (ty := .boolean) (a0 := (n, .inl (fun k => iI ((fun _ => 0 : Int → Int) (k : Int))))) hx hb (hts _ tw_ac1) rfl hK.1 w1 w2 hS hA (fun cA => rfl) (by rw [iI_0, iI_lt (by omega) (by omega)]; omega) e0 (Nat.le_trans (Nat.mul_le_mul hn (show componentBytes .boolean ≤ 4 by decide)) (by decide)) h1 h2 d (fun q cA H1 k1 p1 p2 p3 => ?_)
  have e1 : s.vm.findClass ("[" ++ FieldType.toString .boolean) = some (g.2.1 1) := (hK.1.2 1 (g.2.1 1, .boolean) rfl).2
  have e2 : s.vm.findClass ("[" ++ FieldType.toString .boolean) = some cA := (k1.2 4 (cA, .boolean) rfl).2
  cases Option.some.inj (e1.symm.trans e2)
  obtain ⟨n1, n2⟩ := f_add w3 p1 p2
  exact kk q n1 H1 locs ls n2 p3 hl

/-- int[feeds][racks] at the inner rows -/
theorem v_aaldA (F : Fx p l s m args meth c cc nl ret own g A) {a n q : Nat} {r : Int → Option Nat} {z : Int} (d : decode cc pc = .ok (.aaload, 1)) (hc : h a = some (qar (g.2.1 3) n r)) (hz : 0 ≤ z ∧ z < n) (hn : n < 2147483648) (hr9 : r z = some q) (kk : V p l e R s m args below meth c Q nl g A h cells slots (pc + 1) lo (.ref q :: st)) : V p l e R s m args below meth c Q nl g A h cells slots pc lo (.int (iI z) :: .ref a :: st) := by
  intro H locs ls hP hS hl
  obtain ⟨hx, hb, hml, hr, hown, hlk, hK, hST, hA, hl9, hts⟩ := F
  have hP0 : H[a]? = some (vp_cell (g.2.1 3) (n, .inr (.inr (.inr (.inr (fun k => r (k : Int))))))) := (hP a _ hc).1
  have hin := iI_in hz hn
  have e1 : (((iI z).toNatClampNeg : Nat) : Int) = z := by rw [iI_cl (by omega)]; omega
  have hlt : (iI z).toNatClampNeg < n := by omega
  refine W.aald (v := .ref q) (ty := .array .int) hx hb hP0 ((hK.1.2 3 (g.2.1 3, .array .int) rfl).1 n (fun j => va_rf (r (j : Int)))) rfl (fun q => by cases q) (by show ¬ (iI z < 0 ∨ (arrV _ _ _).slots.size ≤ _); rw [arrV_size]; exact hin) ?_ rfl rfl d (kk H locs ls hP hS hl)
  show (arrV _ _ _).slots[_]? = _
  rw [arrV_read _ _ hlt]
  show some (va_rf (r (((iI z).toNatClampNeg : Nat) : Int))) = _
  rw [e1, hr9]
  rfl
/-- a call's link -/
def CI (own : String) (index : Nat) (y : MethodName) (cc2 : ByteArray) (nl2 : Nat) (ret2 : Option FieldType) (n : Nat) : Prop := Cond.methodLink own index y ∈ lw_T ∧ Cond.initialized y.cls ∈ lw_T ∧ Cond.code y cc2 nl2 ret2 ∈ lw_T ∧ (y.cls ≠ "java/lang/invoke/MethodHandle" ∧ y.cls ≠ "java/lang/invoke/VarHandle" ∧ (parseMethodDescriptor y.desc).map (fun d => d.parameters.length) = some n)
def VX (p : Program) (l : Launch) (e : Env) (R : Room) (s : State) (m : MethodId) (args : Array Value) (below : List Frame) (meth : Method) (c : Code) (Q : State → Prop) (nl : Nat) (g : gT) (A : Nat → Prop) (h : fH) (cells slots pc : Nat) (lo : List (Option Value)) (st : List Value) (E : String) : Prop :=
  ∀ (H : Heap) (locs : List Loc) (ls : Array Slot) (ce : Cell) (q : Nat), f_at g.1 A h H → va_S A s.heap H locs → v_lo ls nl lo → H[q]? = some ce → ce.vm = .none → s.vm.findClass E = some ce.cls → vx_W p l e R s m args below meth c H locs cells slots Q (F0 m pc ls st) q
theorem q_blind {g : gT} {A : Nat → Prop} {h : fH} {av : List Value} : FrameBlind (va_Pc av (PS g A h)) := by
  intro a U fr mk hp
  obtain ⟨h0, h1, ⟨h2, h3⟩, h4, h5⟩ := hp
  refine ⟨h0, h1, ⟨va_K.moved (u := U) (U := U.calling fr mk a) (Vm.Alike.refl U.vm) h2, fun w hw => va_lwT (u := U) (U := U.calling fr mk a) hw rfl (h3 w hw)⟩, ST.moved (u := U) (U := U.calling fr mk a) (Vm.Alike.refl U.vm) (fun _ _ _ _ k => k.same rfl) h4, h5⟩
theorem PS.warm {g : gT} {A : Nat → Prop} {h : fH} {s U : State} {H : Heap} (hW : s.WarmedH U.vm) (hU : U.heap = H) (hP : f_at g.1 A h H) (hK : KK g s) (hST : ST g A s H) (hA : ∀ q, H.size ≤ q → A q) : PS g A h U := by
  subst hU
  exact ⟨hP, ⟨va_K.moved hW.alike hK.1, fun w hw => lwT_warm hW hw (hK.2 w hw)⟩, ST.moved hW.alike (fun _ _ _ _ k => k.warm hW) hST, hA⟩
theorem v_go {rest : List Value} {mc ms : Nat} {av : Array Value} {post : Option Value → fH → Prop} {px : String → fH → Prop} (F : Fx p l s m args meth c cc nl ret own g A) (hrun : ∀ (H : Heap) (locs : List Loc) (ls : Array Slot), f_at g.1 A h H → va_S A s.heap H locs → v_lo ls nl lo → vx_Run p l e R s m args below meth c H locs cells slots mc ms (F0 m pc ls st) rest (q_Q g A post av) (q_X g A px) A)
    (kk : ∀ v h', post v h' → V p l e R s m args below meth c Q nl g A h' (cells + mc) (slots + ms) (pc + 3) lo (v.toList ++ rest)) (kx : ∀ E h', px E h' → VX p l e R s m args below meth c Q nl g A h' (cells + mc) (slots + ms) pc lo rest E) : V p l e R s m args below meth c Q nl g A h cells slots pc lo st := by
  intro H locs ls hP hS hl T hT X
  rcases hrun H locs ls hP hS hl T hT X with ⟨v, st₀, t, T', L, h0, X', hL, e1, e2, ⟨v', h', hv, hpo, hat, hF⟩, st⟩ | ⟨q, st₀, t, T', L, E, ce, h0, X', hL, e1, e2, ⟨h', hpo, hat, hF⟩, hce, hcv, hcl, st⟩
  · cases hv
    obtain ⟨k1, k2, k3⟩ := vx_keep h0 e1 hS (fun q _ z => z) (fun q z => z) hL hF
    obtain ⟨t2, a1, b1⟩ := kk v h' hpo T'.heap (locs ++ L) ls (by rw [e1]; exact hat) k3 hl T' rfl X'
    exact ⟨t2, st t2 a1, b1⟩
  · obtain ⟨k1, k2, k3⟩ := vx_keep h0 e1 hS (fun q _ z => z) (fun q z => z) hL hF
    obtain ⟨t2, a1, b1⟩ := kx E h' hpo T'.heap (locs ++ L) ls ce q (by rw [e1]; exact hat) k3 hl (by rw [e1]; exact hce) hcv hcl T' rfl X'
    exact ⟨t2, st.trans a1, b1⟩
theorem CM.met {y : MethodName} {cc2 : ByteArray} {nl2 : Nat} {ret2 : Option FieldType} {rm : Room} {av : List Value} {post : Option Value → fH → Prop} (hM : CM l g y cc2 nl2 ret2 rm av h post noX) (hl : l.stackTraces = false) (A : Nat → Prop) : Met l y [.code y cc2 nl2 ret2] rm (va_Pc av (PS g A h)) (q_Q g A post) rm.cells rm.slots A := by
  intro p e ha hc hk s m args below hf hap hP hK
  obtain ⟨n, o, h1, h2, h3, h4⟩ := hM hl A p e ha hc hk s m args below hf hap hP hK
  refine ⟨n, o, h1, h2, h3, ?_⟩
  rcases h4 with h4 | ⟨q, -, E, ce, L, ⟨h', hx, -⟩, -⟩
  · exact h4
  · exact hx.elim
/-- the heap's place of a start is the same behind a write -/
theorem ST.at {H : Heap} {locs : List Loc} (hST : ST g A s s.heap) (hS : va_S A s.heap H locs) : ST g A s H := by
  obtain ⟨⟨a1, a2⟩, ⟨b1, ⟨ce, z1, z2⟩, b3⟩, c1, d1⟩ := hST
  have hb := (Array.getElem?_eq_some_iff.mp z1).1
  exact ⟨⟨a1.kept hS.2.1, a2.kept hS.2.1⟩, ⟨b1.kept hS.2.1, ⟨ce, by rw [hS.2.1 _ hb b3]; exact z1, z2⟩, b3⟩, c1, d1⟩
theorem good_code {y : MethodName} {cc2 : ByteArray} {nl2 : Nat} {ret2 : Option FieldType} (hc : Cond.code y cc2 nl2 ret2 ∈ lw_T) : GoodIn lw_T [.code y cc2 nl2 ret2] := fun w hw => by
  rw [List.mem_singleton] at hw
  subst hw
  exact ⟨hc, Or.inl rfl⟩

theorem v_callV (F : Fx p l s m args meth c cc nl ret own g A) {y : MethodName} {cc2 : ByteArray} {nl2 index n : Nat} {ret2 : Option FieldType} {rm : Room} {b : Nat} {As : List Value} {post : Option Value → fH → Prop} {px : String → fH → Prop} {rest : List Value} (ci : CI own index y cc2 nl2 ret2 n) (hi : Cond.instanceMethod y ∈ lw_T) (hse : Cond.selects y.cls y y ∈ lw_T) (hM : CM l g y cc2 nl2 ret2 rm (.ref b :: As) h post px) (d : decode cc pc = .ok (.invokevirtual index, 3)) {k0 : Nat} {r : vw_C} {fs : List Value} (hcl : vwCl[k0]? = some r) (hcn : r.1 = y.cls) (hc : h b = some (.inr (k0, fs))) (hst : st = As.reverse ++ .ref b :: rest) (hn : As.length = n) (hW : (rest.map fun v => v.category).sum ≤ 8) (hfr : rm.frames + 1 ≤ R.frames) (hlo : 8 + (nl2 + 11) + rm.locals ≤ R.locals) (hmc : cells + rm.cells ≤ R.cells) (hms : slots + rm.slots ≤ R.slots) (kk : ∀ v h', post v h' → V p l e R s m args below meth c Q nl g A h' (cells + rm.cells) (slots + rm.slots) (pc + 3) lo (v.toList ++ rest)) (kx : ∀ E h', px E h' → VX p l e R s m args below meth c Q nl g A h' (cells + rm.cells) (slots + rm.slots) pc lo rest E) : V p l e R s m args below meth c Q nl g A h cells slots pc lo st := by
  subst hst
  refine v_go (av := (Value.ref b :: As).toArray) F (fun H locs ls hP hS hl => ?_) kk kx
  obtain ⟨hx, hb, hml, hr, hown, hlk, hK, hST, hA, hl9, hts⟩ := F
  obtain ⟨c1, c2, c3, c4⟩ := ci
  have hrecv : ∃ cell : Cell, H[b]? = some cell ∧ cell.vm.isStatics = false ∧ s.vm.findClass y.cls = some cell.cls := by
    obtain ⟨q', h1, cell, g1, g2, g3, -⟩ := (hP b _ hc).1
    exact ⟨cell, g1, by rw [g3]; rfl, by rw [g2, ← hcn]; exact (hK.1.1 k0 r hcl).2.1⟩
  have hAH : ∀ q, H.size ≤ q → A q := fun q z => hA q (Nat.le_trans hS.1 z)
  exact vx_runV (Ts := lw_T) (own := own) ⟨hx, hb, hml, hown, hts⟩ (hM hl9 A) ⟨callB_of n hts (good_code c3) rfl rfl rfl (hts _ c2) (hts _ c1) c4 ⟨hfr, hlo⟩, hts _ hi, hts _ hse⟩
    ⟨q_blind, hrecv, fun U hU hW9 => ⟨rfl, PS.warm hW9 hU hP hK (hST.at hS) hAH⟩⟩ rfl hn hl.1 rfl (lv_room hW) d ⟨hmc, hms⟩

theorem v_callS (F : Fx p l s m args meth c cc nl ret own g A) {y : MethodName} {cc2 : ByteArray} {nl2 index n : Nat} {ret2 : Option FieldType} {rm : Room} {As : List Value} {post : Option Value → fH → Prop} {px : String → fH → Prop} {rest : List Value} (ci : CI own index y cc2 nl2 ret2 n) (hi : Cond.static y ∈ lw_T) (hM : CM l g y cc2 nl2 ret2 rm As h post px) (d : decode cc pc = .ok (.invokestatic index, 3)) (hst : st = As.reverse ++ rest) (hn : As.length = n) (hW : (rest.map fun v => v.category).sum ≤ 8) (hfr : rm.frames + 1 ≤ R.frames) (hlo : 8 + (nl2 + 11) + rm.locals ≤ R.locals) (hmc : cells + rm.cells ≤ R.cells) (hms : slots + rm.slots ≤ R.slots) (kk : ∀ v h', post v h' → V p l e R s m args below meth c Q nl g A h' (cells + rm.cells) (slots + rm.slots) (pc + 3) lo (v.toList ++ rest)) (kx : ∀ E h', px E h' → VX p l e R s m args below meth c Q nl g A h' (cells + rm.cells) (slots + rm.slots) pc lo rest E) : V p l e R s m args below meth c Q nl g A h cells slots pc lo st := by
  subst hst
  refine v_go (av := As.toArray) F (fun H locs ls hP hS hl => ?_) kk kx
  obtain ⟨hx, hb, hml, hr, hown, hlk, hK, hST, hA, hl9, hts⟩ := F
  obtain ⟨c1, c2, c3, c4⟩ := ci
  have hAH : ∀ q, H.size ≤ q → A q := fun q z => hA q (Nat.le_trans hS.1 z)
  exact vx_runS (Ts := lw_T) (own := own) ⟨hx, hb, hml, hown, hts⟩ (hM hl9 A) ⟨callB_of n hts (good_code c3) rfl rfl rfl (hts _ c2) (hts _ c1) c4 ⟨hfr, hlo⟩, hts _ hi⟩
    ⟨q_blind, fun U hU hW9 => ⟨rfl, PS.warm hW9 hU hP hK (hST.at hS) hAH⟩⟩ rfl hn hl.1 rfl (lv_room hW) d ⟨hmc, hms⟩

theorem v_callI (F : Fx p l s m args meth c cc nl ret own g A) {y : MethodName} {cc2 : ByteArray} {nl2 index n : Nat} {rm : Room} {b : Nat} {As : List Value} {post : Option Value → fH → Prop} {rest : List Value} (ci : CI own index y cc2 nl2 none n) (hi : Cond.instanceMethod y ∈ lw_T) (hin : y.name = "<init>") (hM : CM l g y cc2 nl2 none rm (.ref b :: As) h post noX) (d : decode cc pc = .ok (.invokespecial index, 3)) (hst : st = As.reverse ++ .ref b :: rest) (hn : As.length = n) (hW : (rest.map fun v => v.category).sum ≤ 8) (hfr : rm.frames + 1 ≤ R.frames) (hlo : 8 + (nl2 + 11) + rm.locals ≤ R.locals) (hmc : cells + rm.cells ≤ R.cells) (hms : slots + rm.slots ≤ R.slots) (kk : ∀ v h', post v h' → V p l e R s m args below meth c Q nl g A h' (cells + rm.cells) (slots + rm.slots) (pc + 3) lo (v.toList ++ rest)) : V p l e R s m args below meth c Q nl g A h cells slots pc lo st := by
  subst hst
  refine v_go (av := (Value.ref b :: As).toArray) (px := noX) F (fun H locs ls hP hS hl => ?_) kk (fun _ _ z => z.elim)
  obtain ⟨hx, hb, hml, hr, hown, hlk, hK, hST, hA, hl9, hts⟩ := F
  obtain ⟨c1, c2, c3, c4⟩ := ci
  have hAH : ∀ q, H.size ≤ q → A q := fun q z => hA q (Nat.le_trans hS.1 z)
  exact fun T hT X => Or.inl (va_runI (Ts := lw_T) (own := own) ⟨hx, hb, hml, hown, hts⟩ (hM.met hl9 A) ⟨callB_of n hts (good_code c3) rfl rfl rfl (hts _ c2) (hts _ c1) c4 ⟨hfr, hlo⟩, hin, hts _ hi⟩
    ⟨q_blind, fun U hU hW9 => ⟨rfl, PS.warm hW9 hU hP hK (hST.at hS) hAH⟩⟩ rfl hn hl.1 rfl (lv_room hW) d ⟨hmc, hms⟩ T hT X)
theorem v_callN (F : Fx p l s m args meth c cc nl ret own g A) {y : MethodName} {cc2 : ByteArray} {nl2 index n : Nat} {ret2 : Option FieldType} {rm : Room} {As : List Value} {post : Option Value → fH → Prop} {rest : List Value} {host : String} (ci : Cond.methodLinkNest own index y host ∈ lw_T ∧ Cond.initialized y.cls ∈ lw_T ∧ Cond.code y cc2 nl2 ret2 ∈ lw_T ∧ (y.cls ≠ "java/lang/invoke/MethodHandle" ∧ y.cls ≠ "java/lang/invoke/VarHandle" ∧ (parseMethodDescriptor y.desc).map (fun d => d.parameters.length) = some n)) (hi : Cond.static y ∈ lw_T) (hM : CM l g y cc2 nl2 ret2 rm As h post noX) (d : decode cc pc = .ok (.invokestatic index, 3)) (hst : st = As.reverse ++ rest) (hn : As.length = n) (hW : (rest.map fun v => v.category).sum ≤ 8) (hfr : rm.frames + 1 ≤ R.frames) (hlo : 8 + (nl2 + 11) + rm.locals ≤ R.locals) (hmc : cells + rm.cells ≤ R.cells) (hms : slots + rm.slots ≤ R.slots) (kk : ∀ v h', post v h' → V p l e R s m args below meth c Q nl g A h' (cells + rm.cells) (slots + rm.slots) (pc + 3) lo (v.toList ++ rest)) : V p l e R s m args below meth c Q nl g A h cells slots pc lo st := by
  subst hst
  refine v_go (av := As.toArray) (px := noX) F (fun H locs ls hP hS hl => ?_) kk (fun _ _ z => z.elim)
  obtain ⟨hx, hb, hml, hr, hown, hlk, hK, hST, hA, hl9, hts⟩ := F
  obtain ⟨c1, c2, c3, c4⟩ := ci
  have hAH : ∀ q, H.size ≤ q → A q := fun q z => hA q (Nat.le_trans hS.1 z)
  exact fun T hT X => Or.inl (va_runSN (Ts := lw_T) (own := own) ⟨hx, hb, hml, hown, hts⟩ (hM.met hl9 A) ⟨va_cnB n hts (good_code c3) rfl rfl rfl (va_Nw.of rfl (hts _ c1)) (hts _ c2) c4 ⟨hfr, hlo⟩, hts _ hi, trivial⟩
    ⟨q_blind, fun U hU hW9 => ⟨rfl, PS.warm hW9 hU hP hK (hST.at hS) hAH⟩⟩ rfl hn hl.1 rfl (lv_room hW) d ⟨hmc, hms⟩ T hT X)
/-- Object.<init> -/
theorem v_objInit (F : Fx p l s m args meth c cc nl ret own g A) {index : Nat} {a : Nat} (ci : Cond.methodLink own index objectInit ∈ lw_T) (ci2 : Cond.instanceMethod objectInit ∈ lw_T) (ci3 : Cond.code objectInit ⟨#[0xb1]⟩ 1 none ∈ lw_T) (d : decode cc pc = .ok (.invokespecial index, 3)) (hfr : 1 ≤ R.frames) (hlo : 20 ≤ R.locals) (hW : (st.map fun v => v.category).sum ≤ 8) (kk : V p l e R s m args below meth c Q nl g A h cells slots (pc + 3) lo st) : V p l e R s m args below meth c Q nl g A h cells slots pc lo (.ref a :: st) := by
  intro H locs ls hP hS hl
  obtain ⟨hx, hb, hml, hr, hown, hlk, hK, hST, hA, hl9, hts⟩ := F
  have h9 := lv_room (m := m) (pc := pc) (ls := ls) (rest := .ref a :: st) hW
  exact W.objInit hx hb hown (hts _ ci) (hts _ ci2) (hts _ ci3) rfl (hl.1.trans hml.symm) rfl d hfr (by omega) (kk H locs ls hP hS hl)
end VCALLS
section VENDS
variable {p : Program} {l : Launch} {e : Env} {R : Room} {s : State} {m : MethodId} {args : Array Value} {below : List Frame} {meth : Method} {c : Code} {Q : State → Prop} {nl : Nat} {g : gT} {A : Nat → Prop} {h : fH} {cells slots pc : Nat} {lo lo' : List (Option Value)} {st : List Value} {cc : ByteArray} {ret : Option FieldType} {own : String}
  {post : Option Value → fH → Prop} {px : String → fH → Prop} {mc ms : Nat}
abbrev VE (p : Program) (l : Launch) (e : Env) (R : Room) (s : State) (m : MethodId) (args : Array Value) (below : List Frame) (meth : Method) (c : Code) (nl : Nat) (g : gT) (A : Nat → Prop) (h : fH) (cells slots pc : Nat) (lo : List (Option Value)) (st : List Value) (post : Option Value → fH → Prop) (px : String → fH → Prop) (mc ms : Nat) : Prop := V p l e R s m args below meth c (vx_MQ below (q_Q g A post) (q_X g A px) args s mc ms A) nl g A h cells slots pc lo st
theorem v_wid {k n : Nat} (h1 : cells ≤ k) (h2 : slots ≤ n) (kk : V p l e R s m args below meth c Q nl g A h k n pc lo st) : V p l e R s m args below meth c Q nl g A h cells slots pc lo st :=
  fun H locs ls hP hS hl => W.widen h1 h2 (kk H locs ls hP hS hl)
theorem v_iret (F : Fx p l s m args meth c cc nl ret own g A) {z : Int32} {ty : FieldType} (d : decode cc pc = .ok (.ireturn, 1)) (hr9 : ret = some ty) (hn : narrow ty (.int z) = .int z) (h1 : cells ≤ mc) (h2 : slots ≤ ms) (hq : post (some (.int z)) h) : VE p l e R s m args below meth c nl g A h cells slots pc lo (.int z :: []) post px mc ms :=
  v_wid h1 h2 (fun H locs ls hP hS hl => by
    obtain ⟨hx, hb, hml, hr, hown, hlk, hK, hST, hA, hl9, hts⟩ := F
    exact vx_ret (W.zret (ty := ty) hx hb (hr.trans hr9) hn (fun t ht hW => ⟨some (.int z), h, rfl, hq, by rw [ht]; exact hP, hS.F ht⟩) hS.2.2 d hlk))
theorem v_vret (F : Fx p l s m args meth c cc nl ret own g A) (d : decode cc pc = .ok (.return_, 1)) (hr9 : ret = none) (h1 : cells ≤ mc) (h2 : slots ≤ ms) (hq : post none h) : VE p l e R s m args below meth c nl g A h cells slots pc lo [] post px mc ms :=
  v_wid h1 h2 (fun H locs ls hP hS hl => by
    obtain ⟨hx, hb, hml, hr, hown, hlk, hK, hST, hA, hl9, hts⟩ := F
    exact vx_ret (W.vret hx hb (hr.trans hr9) (fun t ht hW => ⟨none, h, rfl, hq, by rw [ht]; exact hP, hS.F ht⟩) hS.2.2 d hlk))
theorem v_aret (F : Fx p l s m args meth c cc nl ret own g A) {a : Nat} {ty : FieldType} (d : decode cc pc = .ok (.areturn, 1)) (hr9 : ret = some ty) (hn : (∃ n, ty = .object n) ∨ ∃ t, ty = .array t) (h1 : cells ≤ mc) (h2 : slots ≤ ms) (hq : post (some (.ref a)) h) : VE p l e R s m args below meth c nl g A h cells slots pc lo (.ref a :: []) post px mc ms :=
  v_wid h1 h2 (fun H locs ls hP hS hl => by
    obtain ⟨hx, hb, hml, hr, hown, hlk, hK, hST, hA, hl9, hts⟩ := F
    exact vx_ret (W.aret hx hb (hr.trans hr9) hn (Or.inr ⟨a, rfl⟩) (fun t ht hW => ⟨some (.ref a), h, rfl, hq, by rw [ht]; exact hP, hS.F ht⟩) hS.2.2 d hlk))
/-- what a callee threw leaves a method without a table -/
theorem v_xout {E : String} (hlk : meth.locks = false) (htab : ∀ x ∈ c.exceptionTable.toList, False) (h1 : cells ≤ mc) (h2 : slots ≤ ms) (hq : px E h) : VX p l e R s m args below meth c (vx_MQ below (q_Q g A post) (q_X g A px) args s mc ms A) nl g A h cells slots pc lo st E :=
  fun H locs ls ce q hP hS hl hce hcv hcl => vx_out (fun x z => (htab x z).elim) hlk hce hcv hcl (fun t ht hW => ⟨h, hq, by rw [ht]; exact hP, hS.F ht⟩) hS.2.2 h1 h2
/-- a throw of the class's own -/
theorem v_throw (F : Fx p l s m args meth c cc nl ret own g A) {cls text : String} {names : List String} {ik is ic : Nat} (hcls : Bundle.fit cls = true) (hnames : ∀ n ∈ names, Bundle.fit n = true) (hk : Cond.classLink own ik cls ∈ lw_T) (hini : Cond.initialized cls ∈ lw_T) (hs : (own, is, text) ∈ q_strs) (hat : ∀ w ∈ vx_atS own ic cls names, w ∈ lw_T) (hgood : ∀ w ∈ Cond.classLink own ik cls :: Cond.initialized cls :: vx_atS own ic cls names, vx_ot w = true)
    (htab : ∀ x ∈ c.exceptionTable.toList, False) (d0 : decode cc pc = .ok (.new ik, 3)) (d3 : decode cc (pc + 3) = .ok (.dup, 1)) (d4 : decode cc (pc + 4) = .ok (.ldc is, 2)) (d6 : decode cc (pc + 6) = .ok (.invokespecial ic, 3)) (d9 : decode cc (pc + 9) = .ok (.athrow, 1))
    (hf1 : names.length + 3 < R.frames) (hf2 : (st.map fun v => v.category).sum + (13 * (names.length + 1) + 43) ≤ R.locals) (hc1 : cells + 1 ≤ R.cells) (hc2 : slots + 6 ≤ R.slots) (h1 : cells + 1 ≤ mc) (h2 : slots + 6 ≤ ms) (hq : px cls h) : VE p l e R s m args below meth c nl g A h cells slots pc lo st post px mc ms := by
  intro H locs ls hP hS hl
  obtain ⟨hx, hb, hml, hr, hown, hlk, hK, hST, hA, hl9, hts⟩ := F
  obtain ⟨sa, hsa⟩ := hST.2.2.1 _ hs
  refine vx_throwS hx hb hl9 hown hcls hnames (hts _ hk) (hts _ hini) hsa (fun w hw => hts _ (hat w hw)) hgood hST.1.1 hST.1.2 hS (hl.1.trans hml.symm) d0 d3 d4 d6 d9 (fun x z => (htab x z).elim) hf1 hf2 hc1 hc2 hlk (fun t hW hz ho => ?_) hS.2.2 h1 h2
  refine ⟨h, hq, fun a e9 he => ⟨(hP a e9 he).1.kept (ho a ((hP a e9 he).1.lt)), (hP a e9 he).2⟩, Nat.le_trans hS.1 hz, fun q hq1 hq2 => ?_⟩
  rw [ho q (Nat.lt_of_lt_of_le hq1 hS.1)]
  exact hS.2.1 q hq1 hq2
theorem v_lo_entry {av : List Value} {n : Nat} (hn : av.length ≤ n) (hcat : ∀ v ∈ av, v.category = 1) : v_lo ((lg_sl av ++ List.replicate (n - (lg_sl av).length) Slot.unset).toArray) n (av.map some ++ List.replicate (n - av.length) none) := by
  have e : lg_sl av = av.map Slot.val := by
    unfold lg_sl
    clear hn
    induction av with
    | nil => rfl
    | cons v t ih =>
      have h1 := hcat v List.mem_cons_self
      rw [List.flatMap_cons, ih (fun w hw => hcat w (List.mem_cons_of_mem _ hw)), if_neg (by omega)]
      rfl
  have h0 := lv_entry av (n := n) (by rw [e, List.length_map]; exact hn)
  refine ⟨h0.1, h0.2.1, fun i v hi => ?_⟩
  have hi2 : i < av.length := by
    rcases Nat.lt_or_ge i av.length with h1 | h1
    · exact h1
    · rw [List.getElem?_append_right (by rw [List.length_map]; exact h1)] at hi
      have := List.mem_replicate.mp (List.mem_of_getElem? hi)
      cases this.2
  rw [List.getElem?_append_left (by rw [List.length_map]; exact hi2), List.getElem?_map] at hi
  have hv : av[i]? = some v := by
    cases h2 : av[i]? with
    | none => rw [h2] at hi; cases hi
    | some w => rw [h2] at hi; cases hi; rfl
  refine ⟨hcat v (List.mem_of_getElem? hv), ?_⟩
  rw [List.getElem?_toArray, List.getElem?_append_left (by rw [e, List.length_map]; exact hi2), e, List.getElem?_map, hv]
  rfl
theorem CM.of {y : MethodName} {cc2 : ByteArray} {nl2 : Nat} {ret2 : Option FieldType} {rm : Room} {av : List Value} (hy : plainName y.cls = true) (hn : av.length ≤ nl2) (hcat : ∀ v ∈ av, v.category = 1) (hlo : lo = av.map some ++ List.replicate (nl2 - av.length) none)
    (body : ∀ (p : Program) (e : Env) (s : State) (m : MethodId) (below : List Frame) (meth : Method) (c : Code) (A : Nat → Prop), Fx p l s m av.toArray meth c cc2 nl2 ret2 y.cls g A → (∀ x ∈ c.exceptionTable.toList, False) → meth.name = y.name → VE p l e rm s m av.toArray below meth c nl2 g A h 0 0 0 lo [] post px rm.cells rm.slots) : CM l g y cc2 nl2 ret2 rm av h post px := by
  intro hl A
  refine vx_ofW hy rfl ?_
  intro p e s m args below meth c s₁ B hml htab hv
  obtain ⟨rfl, hP, hK, hST, hA⟩ := hv
  have hown : s.vm.findClass y.cls = some m.cls := findClass_of_methodNamed B.named
  have k := body p e s m below meth c A ⟨B.exec, B.bytes, hml, B.returns, hown, B.notSynchronized, hK, hST, hA, hl, fun w hw => va_lwT (u := s) (U := s) hw rfl (hK.2 w hw)⟩ htab (name_of_methodNamed B.named B.method).1
  rw [lg_entry_eq]
  subst hlo
  exact k s.heap [] _ hP va_S.rf (v_lo_entry hn hcat)
end VENDS

section VPURE
variable {p : Program} {l : Launch} {e : Env} {R : Room} {s : State} {m : MethodId} {args : Array Value} {below : List Frame} {meth : Method} {c : Code} {Q : State → Prop} {nl : Nat} {g : gT} {A : Nat → Prop} {h : fH} {cells slots pc : Nat} {lo lo' : List (Option Value)} {st : List Value} {cc : ByteArray} {ret : Option FieldType} {own : String}
/-- fewer known locals -/
def loLe : List (Option Value) → List (Option Value) → Prop
  | [], _ => True
  | none :: a, [] => loLe a []
  | none :: a, _ :: b => loLe a b
  | some _ :: _, [] => False
  | some v :: a, w :: b => w = some v ∧ loLe a b
theorem loLe_at : ∀ (a b : List (Option Value)), loLe a b → ∀ (i : Nat) (v : Value), a[i]? = some (some v) → b[i]? = some (some v)
  | [], _, _, _, _, h => by simp at h
  | none :: a, [], k, i, v, h => by
    cases i with
    | zero => simp at h
    | succ i => have := loLe_at a [] k i v (by simpa using h); simp at this
  | none :: a, _ :: b, k, i, v, h => by
    cases i with
    | zero => simp at h
    | succ i => simpa using loLe_at a b k i v (by simpa using h)
  | some w :: a, [], k, _, _, _ => k.elim
  | some w :: a, u :: b, k, i, v, h => by
    cases i with
    | zero => simp at h; subst h; simp [k.1]
    | succ i => simpa using loLe_at a b k.2 i v (by simpa using h)
theorem V.fg (k : V p l e R s m args below meth c Q nl g A h cells slots pc lo' st) (hl : loLe lo' lo) : V p l e R s m args below meth c Q nl g A h cells slots pc lo st :=
  fun H locs ls hP hS hlo => k H locs ls hP hS ⟨hlo.1, hlo.2.1, fun i v hi => hlo.2.2 i v (loLe_at _ _ hl i v hi)⟩
/-- a plain answer: this value, this heap -/
abbrev pV (r : Option Value) (h1 : fH) : Option Value → fH → Prop := fun v h' => v = r ∧ h' = h1

theorem v_callVp (F : Fx p l s m args meth c cc nl ret own g A) {y : MethodName} {cc2 : ByteArray} {nl2 index n : Nat} {ret2 : Option FieldType} {rm : Room} {b : Nat} {As : List Value} {h1 : fH} {px : String → fH → Prop} {rest : List Value} {w : Value} (ci : CI own index y cc2 nl2 ret2 n) (hi : Cond.instanceMethod y ∈ lw_T) (hse : Cond.selects y.cls y y ∈ lw_T) (hM : CM l g y cc2 nl2 ret2 rm (.ref b :: As) h (pV (some w) h1) px) (d : decode cc pc = .ok (.invokevirtual index, 3)) {k0 : Nat} {r : vw_C} {fs : List Value} (hcl : vwCl[k0]? = some r) (hcn : r.1 = y.cls) (hc : h b = some (.inr (k0, fs))) (hst : st = As.reverse ++ .ref b :: rest) (hn : As.length = n) (hW : (rest.map fun v => v.category).sum ≤ 8) (hfr : rm.frames + 1 ≤ R.frames) (hlo : 8 + (nl2 + 11) + rm.locals ≤ R.locals) (hmc : cells + rm.cells ≤ R.cells) (hms : slots + rm.slots ≤ R.slots) (kk : V p l e R s m args below meth c Q nl g A h1 (cells + rm.cells) (slots + rm.slots) (pc + 3) lo (w :: rest)) (kx : ∀ E h', px E h' → VX p l e R s m args below meth c Q nl g A h' (cells + rm.cells) (slots + rm.slots) pc lo rest E) : V p l e R s m args below meth c Q nl g A h cells slots pc lo st :=
  v_callV F ci hi hse hM d hcl hcn hc hst hn hW hfr hlo hmc hms (fun v h' hp => by obtain ⟨rfl, rfl⟩ := hp; exact kk) kx
theorem v_callSp (F : Fx p l s m args meth c cc nl ret own g A) {y : MethodName} {cc2 : ByteArray} {nl2 index n : Nat} {ret2 : Option FieldType} {rm : Room} {As : List Value} {h1 : fH} {px : String → fH → Prop} {rest : List Value} {w : Value} (ci : CI own index y cc2 nl2 ret2 n) (hi : Cond.static y ∈ lw_T) (hM : CM l g y cc2 nl2 ret2 rm As h (pV (some w) h1) px) (d : decode cc pc = .ok (.invokestatic index, 3)) (hst : st = As.reverse ++ rest) (hn : As.length = n) (hW : (rest.map fun v => v.category).sum ≤ 8) (hfr : rm.frames + 1 ≤ R.frames) (hlo : 8 + (nl2 + 11) + rm.locals ≤ R.locals) (hmc : cells + rm.cells ≤ R.cells) (hms : slots + rm.slots ≤ R.slots) (kk : V p l e R s m args below meth c Q nl g A h1 (cells + rm.cells) (slots + rm.slots) (pc + 3) lo (w :: rest)) (kx : ∀ E h', px E h' → VX p l e R s m args below meth c Q nl g A h' (cells + rm.cells) (slots + rm.slots) pc lo rest E) : V p l e R s m args below meth c Q nl g A h cells slots pc lo st :=
  v_callS F ci hi hM d hst hn hW hfr hlo hmc hms (fun v h' hp => by obtain ⟨rfl, rfl⟩ := hp; exact kk) kx
theorem v_callNp (F : Fx p l s m args meth c cc nl ret own g A) {y : MethodName} {cc2 : ByteArray} {nl2 index n : Nat} {ret2 : Option FieldType} {rm : Room} {As : List Value} {h1 : fH} {rest : List Value} {w : Value} {host : String} (ci : Cond.methodLinkNest own index y host ∈ lw_T ∧ Cond.initialized y.cls ∈ lw_T ∧ Cond.code y cc2 nl2 ret2 ∈ lw_T ∧ (y.cls ≠ "java/lang/invoke/MethodHandle" ∧ y.cls ≠ "java/lang/invoke/VarHandle" ∧ (parseMethodDescriptor y.desc).map (fun d => d.parameters.length) = some n)) (hi : Cond.static y ∈ lw_T) (hM : CM l g y cc2 nl2 ret2 rm As h (pV (some w) h1) noX) (d : decode cc pc = .ok (.invokestatic index, 3)) (hst : st = As.reverse ++ rest) (hn : As.length = n) (hW : (rest.map fun v => v.category).sum ≤ 8) (hfr : rm.frames + 1 ≤ R.frames) (hlo : 8 + (nl2 + 11) + rm.locals ≤ R.locals) (hmc : cells + rm.cells ≤ R.cells) (hms : slots + rm.slots ≤ R.slots) (kk : V p l e R s m args below meth c Q nl g A h1 (cells + rm.cells) (slots + rm.slots) (pc + 3) lo (w :: rest)) : V p l e R s m args below meth c Q nl g A h cells slots pc lo st :=
  v_callN F ci hi hM d hst hn hW hfr hlo hmc hms (fun v h' hp => by obtain ⟨rfl, rfl⟩ := hp; exact kk)

theorem v_callVn (F : Fx p l s m args meth c cc nl ret own g A) {y : MethodName} {cc2 : ByteArray} {nl2 index n : Nat} {ret2 : Option FieldType} {rm : Room} {b : Nat} {As : List Value} {h1 : fH} {px : String → fH → Prop} {rest : List Value} (ci : CI own index y cc2 nl2 ret2 n) (hi : Cond.instanceMethod y ∈ lw_T) (hse : Cond.selects y.cls y y ∈ lw_T) (hM : CM l g y cc2 nl2 ret2 rm (.ref b :: As) h (pV none h1) px) (d : decode cc pc = .ok (.invokevirtual index, 3)) {k0 : Nat} {r : vw_C} {fs : List Value} (hcl : vwCl[k0]? = some r) (hcn : r.1 = y.cls) (hc : h b = some (.inr (k0, fs))) (hst : st = As.reverse ++ .ref b :: rest) (hn : As.length = n) (hW : (rest.map fun v => v.category).sum ≤ 8) (hfr : rm.frames + 1 ≤ R.frames) (hlo : 8 + (nl2 + 11) + rm.locals ≤ R.locals) (hmc : cells + rm.cells ≤ R.cells) (hms : slots + rm.slots ≤ R.slots) (kk : V p l e R s m args below meth c Q nl g A h1 (cells + rm.cells) (slots + rm.slots) (pc + 3) lo rest) (kx : ∀ E h', px E h' → VX p l e R s m args below meth c Q nl g A h' (cells + rm.cells) (slots + rm.slots) pc lo rest E) : V p l e R s m args below meth c Q nl g A h cells slots pc lo st :=
  v_callV F ci hi hse hM d hcl hcn hc hst hn hW hfr hlo hmc hms (fun v h' hp => by obtain ⟨rfl, rfl⟩ := hp; exact kk) kx
theorem v_callSn (F : Fx p l s m args meth c cc nl ret own g A) {y : MethodName} {cc2 : ByteArray} {nl2 index n : Nat} {ret2 : Option FieldType} {rm : Room} {As : List Value} {h1 : fH} {px : String → fH → Prop} {rest : List Value} (ci : CI own index y cc2 nl2 ret2 n) (hi : Cond.static y ∈ lw_T) (hM : CM l g y cc2 nl2 ret2 rm As h (pV none h1) px) (d : decode cc pc = .ok (.invokestatic index, 3)) (hst : st = As.reverse ++ rest) (hn : As.length = n) (hW : (rest.map fun v => v.category).sum ≤ 8) (hfr : rm.frames + 1 ≤ R.frames) (hlo : 8 + (nl2 + 11) + rm.locals ≤ R.locals) (hmc : cells + rm.cells ≤ R.cells) (hms : slots + rm.slots ≤ R.slots) (kk : V p l e R s m args below meth c Q nl g A h1 (cells + rm.cells) (slots + rm.slots) (pc + 3) lo rest) (kx : ∀ E h', px E h' → VX p l e R s m args below meth c Q nl g A h' (cells + rm.cells) (slots + rm.slots) pc lo rest E) : V p l e R s m args below meth c Q nl g A h cells slots pc lo st :=
  v_callS F ci hi hM d hst hn hW hfr hlo hmc hms (fun v h' hp => by obtain ⟨rfl, rfl⟩ := hp; exact kk) kx
theorem v_callNn (F : Fx p l s m args meth c cc nl ret own g A) {y : MethodName} {cc2 : ByteArray} {nl2 index n : Nat} {ret2 : Option FieldType} {rm : Room} {As : List Value} {h1 : fH} {rest : List Value} {host : String} (ci : Cond.methodLinkNest own index y host ∈ lw_T ∧ Cond.initialized y.cls ∈ lw_T ∧ Cond.code y cc2 nl2 ret2 ∈ lw_T ∧ (y.cls ≠ "java/lang/invoke/MethodHandle" ∧ y.cls ≠ "java/lang/invoke/VarHandle" ∧ (parseMethodDescriptor y.desc).map (fun d => d.parameters.length) = some n)) (hi : Cond.static y ∈ lw_T) (hM : CM l g y cc2 nl2 ret2 rm As h (pV none h1) noX) (d : decode cc pc = .ok (.invokestatic index, 3)) (hst : st = As.reverse ++ rest) (hn : As.length = n) (hW : (rest.map fun v => v.category).sum ≤ 8) (hfr : rm.frames + 1 ≤ R.frames) (hlo : 8 + (nl2 + 11) + rm.locals ≤ R.locals) (hmc : cells + rm.cells ≤ R.cells) (hms : slots + rm.slots ≤ R.slots) (kk : V p l e R s m args below meth c Q nl g A h1 (cells + rm.cells) (slots + rm.slots) (pc + 3) lo rest) : V p l e R s m args below meth c Q nl g A h cells slots pc lo st :=
  v_callN F ci hi hM d hst hn hW hfr hlo hmc hms (fun v h' hp => by obtain ⟨rfl, rfl⟩ := hp; exact kk)

theorem v_callIn (F : Fx p l s m args meth c cc nl ret own g A) {y : MethodName} {cc2 : ByteArray} {nl2 index n : Nat} {rm : Room} {b : Nat} {As : List Value} {h1 : fH} {rest : List Value} (ci : CI own index y cc2 nl2 none n) (hi : Cond.instanceMethod y ∈ lw_T) (hin : y.name = "<init>") (hM : CM l g y cc2 nl2 none rm (.ref b :: As) h (pV none h1) noX) (d : decode cc pc = .ok (.invokespecial index, 3)) (hst : st = As.reverse ++ .ref b :: rest) (hn : As.length = n) (hW : (rest.map fun v => v.category).sum ≤ 8) (hfr : rm.frames + 1 ≤ R.frames) (hlo : 8 + (nl2 + 11) + rm.locals ≤ R.locals) (hmc : cells + rm.cells ≤ R.cells) (hms : slots + rm.slots ≤ R.slots) (kk : V p l e R s m args below meth c Q nl g A h1 (cells + rm.cells) (slots + rm.slots) (pc + 3) lo rest) : V p l e R s m args below meth c Q nl g A h cells slots pc lo st :=
  v_callI F ci hi hin hM d hst hn hW hfr hlo hmc hms (fun v h' hp => by obtain ⟨rfl, rfl⟩ := hp; exact kk)
/-- a cast among the class's own -/
theorem v_cast (F : Fx p l s m args meth c cc nl ret own g A) {index ci : Nat} {C nm : String} {T : u_T} {N a : Nat} {fs : List Value} (cc9 : vwCl[ci]? = some (C, T, N) ∧ Cond.classLink own index nm ∈ lw_T ∧ Cond.castable C nm ∈ lw_T) (d : decode cc pc = .ok (.checkcast index, 3)) (hc : h a = some (.inr (ci, fs))) (kk : V p l e R s m args below meth c Q nl g A h cells slots (pc + 3) lo (.ref a :: st)) : V p l e R s m args below meth c Q nl g A h cells slots pc lo (.ref a :: st) := by
  intro H locs ls hP hS hl
  obtain ⟨hx, hb, hml, hr, hown, hlk, hK, hST, hA, hl9, hts⟩ := F
  obtain ⟨c1, c2, c3⟩ := cc9
  obtain ⟨q', h1, cell, g1, g2, g3, -⟩ := (hP a _ hc).1
  exact va_castY hx hb hown (hts _ c2) (va_Nw.of rfl (hts _ c3)) ⟨cell, g1, by rw [g3]; rfl, by rw [g2]; exact (hK.1.1 ci _ c1).2.1⟩ d (kk H locs ls hP hS hl)
end VPURE

