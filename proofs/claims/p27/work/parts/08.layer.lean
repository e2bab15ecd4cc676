/-! ===== the layer: heaps as partial functions, ints as whole numbers ===== -/
def iI (z : Int) : Int32 := Int32.ofInt z
theorem iI_toInt {z : Int} (h : -2147483648 ≤ z ∧ z ≤ 2147483647) : (iI z).toInt = z := Int32.toInt_ofInt_of_le (by omega) (by omega)
theorem iI_of (x : Int32) : ∃ z : Int, x = iI z ∧ -2147483648 ≤ z ∧ z ≤ 2147483647 := ⟨x.toInt, (Int32.ofInt_toInt x).symm, by have := Int32.le_toInt x; omega, by have := Int32.toInt_lt x; omega⟩
theorem iI_add (a b : Int) : iI a + iI b = iI (a + b) := (Int32.ofInt_add a b).symm
theorem iI_sub (a b : Int) : iI a - iI b = iI (a - b) := (Int32.ofInt_sub a b).symm
theorem iI_mul (a b : Int) : iI a * iI b = iI (a * b) := (Int32.ofInt_mul a b).symm
theorem iI_neg (a : Int) : -iI a = iI (-a) := (Int32.ofInt_neg a).symm
theorem iI_0 : (0 : Int32) = iI 0 := by decide
theorem iI_lt {a b : Int} (ha : -2147483648 ≤ a ∧ a ≤ 2147483647) (hb : -2147483648 ≤ b ∧ b ≤ 2147483647) : iI a < iI b ↔ a < b := by rw [Int32.lt_iff_toInt_lt, iI_toInt ha, iI_toInt hb]
theorem iI_le {a b : Int} (ha : -2147483648 ≤ a ∧ a ≤ 2147483647) (hb : -2147483648 ≤ b ∧ b ≤ 2147483647) : iI a ≤ iI b ↔ a ≤ b := by rw [Int32.le_iff_toInt_le, iI_toInt ha, iI_toInt hb]
theorem iI_eq {a b : Int} (ha : -2147483648 ≤ a ∧ a ≤ 2147483647) (hb : -2147483648 ≤ b ∧ b ≤ 2147483647) : iI a = iI b ↔ a = b := by rw [← Int32.toInt_inj, iI_toInt ha, iI_toInt hb]
theorem iI_div {a b : Int} (ha : 0 ≤ a ∧ a ≤ 2147483647) (hb : 0 < b ∧ b ≤ 2147483647) : iI a / iI b = iI (a / b) := by
  have h1 : iI b ≠ -1 := fun q => by
    have := congrArg Int32.toInt q
    rw [iI_toInt (by omega), show ((-1 : Int32)).toInt = -1 from by decide] at this
    omega
  have h2 : a / b ≤ a := Int.ediv_le_self b ha.1
  have h3 : 0 ≤ a / b := Int.ediv_nonneg ha.1 (by omega)
  rw [← Int32.toInt_inj, Int32.toInt_div_of_ne_right _ _ h1, iI_toInt (by omega), iI_toInt (by omega), iI_toInt (by omega), Int.tdiv_eq_ediv_of_nonneg ha.1]
theorem iI_rem {a b : Int} (ha : 0 ≤ a ∧ a ≤ 2147483647) (hb : 0 < b ∧ b ≤ 2147483647) : iI a - iI a / iI b * iI b = iI (a % b) := by
  rw [iI_div ha hb, iI_mul, iI_sub, Int.emod_def, Int.mul_comm b]
theorem iI_cl {z : Int} (h : 0 ≤ z ∧ z ≤ 2147483647) : (iI z).toNatClampNeg = z.toNat := Int32.toNatClampNeg_ofInt_of_le (by omega) (by omega)
theorem iI_in {z : Int} {n : Nat} (h : 0 ≤ z ∧ z < n) (hn : n < 2147483648) : vp_in (iI z) n := by
  rw [vp_in_iff, iI_toInt (by omega)]; exact h
theorem iI_nat (n : Nat) : Int32.ofNat n = iI n := (Int32.ofInt_eq_ofNat).symm
/-- g, but v at k -/
def iup {α : Type} (g : Int → α) (k : Int) (v : α) : Int → α := fun j => if j = k then v else g j
theorem iup_s {α : Type} (g : Int → α) (k : Int) (v : α) : iup g k v k = v := if_pos rfl
theorem iup_n {α : Type} {g : Int → α} {k j : Int} {v : α} (h : j ≠ k) : iup g k v j = g j := if_neg h
abbrev iar (c : ClassId) (n : Nat) (g : Int → Int) : va_E := .inl (c, n, .inl (fun k => iI (g (k : Int))))
abbrev qar (c : ClassId) (n : Nat) (r : Int → Option Nat) : va_E := .inl (c, n, .inr (.inr (.inr (.inr (fun k => r (k : Int))))))
theorem iup_upd {g : Int → Int} {z v : Int} (hz : 0 ≤ z) : upd (fun k : Nat => iI (g (k : Int))) z.toNat (iI v) = fun k : Nat => iI (iup g z v (k : Int)) := by
  funext k
  unfold upd iup
  by_cases h : k = z.toNat
  · subst h
    rw [if_pos rfl, if_pos (by omega)]
  · rw [if_neg h, if_neg (by omega)]
theorem iup_upq {r : Int → Option Nat} {z : Int} {v : Option Nat} (hz : 0 ≤ z) : va_up (fun k : Nat => r (k : Int)) z.toNat v = fun k : Nat => iup r z v (k : Int) := by
  funext k
  unfold va_up iup
  by_cases h : k = z.toNat
  · subst h
    rw [if_pos rfl, if_pos (by omega)]
  · rw [if_neg h, if_neg (by omega)]
/-- a heap: what the cells of the system hold -/
abbrev fH : Type := Nat → Option va_E
def f_up (h : fH) (a : Nat) (e : va_E) : fH := fun q => if q = a then some e else h q
theorem f_up_s (h : fH) (a : Nat) (e : va_E) : f_up h a e a = some e := if_pos rfl
theorem f_up_n {h : fH} {a b : Nat} {e : va_E} (n : b ≠ a) : f_up h a e b = h b := if_neg n
def f_at (G : va_G) (A : Nat → Prop) (h : fH) (H : Heap) : Prop := ∀ a e, h a = some e → va_at G vwCl (a, e) H ∧ A a
/-- the same heap as a list -/
theorem f_ws {G : va_G} {A : Nat → Prop} {h : fH} {H : Heap} (hP : f_at G A h H) : ∃ ws : va_W, va_P G vwCl ws H ∧ va_D A ws ∧ (∀ a e, h a = some e → ∃ k : Nat, ws[k]? = some (a, e)) ∧ ∀ (k : Nat) (a : Nat) (e : va_E), ws[k]? = some (a, e) → h a = some e := by
  let ws : va_W := (List.range H.size).filterMap (fun a => (h a).map (fun e => (a, e)))
  have hm : ∀ a e, (a, e) ∈ ws ↔ a < H.size ∧ h a = some e := by
    intro a e
    simp only [ws, List.mem_filterMap, List.mem_range, Option.map_eq_some_iff, Prod.mk.injEq]
    constructor
    · rintro ⟨b, hb, e', he, rfl, rfl⟩
      exact ⟨hb, he⟩
    · rintro ⟨hb, he⟩
      exact ⟨a, hb, e, he, rfl, rfl⟩
  have hpw : ws.Pairwise (fun p q => p.1 < q.1) := by
    refine List.Pairwise.filterMap _ ?_ List.pairwise_lt_range
    intro a a' haa b hb b' hb'
    simp only [Option.map_eq_some_iff] at hb hb'
    obtain ⟨_, _, rfl⟩ := hb
    obtain ⟨_, _, rfl⟩ := hb'
    exact haa
  have hget : ∀ (k : Nat) (a : Nat) (e : va_E), ws[k]? = some (a, e) → h a = some e := fun k a e hk => ((hm a e).mp (List.mem_of_getElem? hk)).2
  refine ⟨ws, fun k q hk => (hP q.1 q.2 (hget k q.1 q.2 hk)).1, ⟨fun i j p q hi hj hpq => ?_, fun k q hk => (hP q.1 q.2 (hget k q.1 q.2 hk)).2⟩, fun a e he => ?_, hget⟩
  · have key : ∀ (i j : Nat) (p q : Nat × va_E), i < j → ws[i]? = some p → ws[j]? = some q → p.1 < q.1 := by
      intro i j p q hij hi hj
      obtain ⟨hi1, rfl⟩ := List.getElem?_eq_some_iff.mp hi
      obtain ⟨hj1, rfl⟩ := List.getElem?_eq_some_iff.mp hj
      exact List.pairwise_iff_getElem.mp hpw i j hi1 hj1 hij
    rcases Nat.lt_trichotomy i j with h1 | h1 | h1
    · have := key i j p q h1 hi hj; omega
    · exact h1
    · have := key j i q p h1 hj hi; omega
  · exact List.getElem?_of_mem ((hm a e).mpr ⟨(hP a e he).1.lt, he⟩)
theorem f_set {G : va_G} {A : Nat → Prop} {h : fH} {H1 : Heap} {ws : va_W} {k a : Nat} {e0 e : va_E} (h2 : ∀ a e, h a = some e → ∃ k : Nat, ws[k]? = some (a, e)) (hk : ws[k]? = some (a, e0)) (hP : va_P G vwCl (ws.set k (a, e)) H1) (hD : va_D A (ws.set k (a, e))) : f_at G A (f_up h a e) H1 := by
  have hl := (List.getElem?_eq_some_iff.mp hk).1
  have hs : (ws.set k (a, e))[k]? = some (a, e) := List.getElem?_set_self hl
  intro b e1 hb
  by_cases n : b = a
  · subst n
    rw [f_up_s] at hb
    cases hb
    exact ⟨hP k _ hs, hD.2 k _ hs⟩
  · rw [f_up_n n] at hb
    obtain ⟨j, hj⟩ := h2 b e1 hb
    have hjk : k ≠ j := fun q => by
      subst q
      rw [hk] at hj
      cases hj
      exact n rfl
    have hs2 : (ws.set k (a, e))[j]? = some (b, e1) := by rw [List.getElem?_set_ne hjk]; exact hj
    exact ⟨hP j _ hs2, hD.2 j _ hs2⟩
theorem f_add {G : va_G} {A : Nat → Prop} {h : fH} {H1 : Heap} {ws : va_W} {a : Nat} {e : va_E} (h2 : ∀ a e, h a = some e → ∃ k : Nat, ws[k]? = some (a, e)) (hP : va_P G vwCl (ws ++ [(a, e)]) H1) (hD : va_D A (ws ++ [(a, e)])) : h a = none ∧ f_at G A (f_up h a e) H1 := by
  have hs : (ws ++ [(a, e)])[ws.length]? = some (a, e) := by rw [List.getElem?_append_right (Nat.le_refl _), Nat.sub_self]; rfl
  have old : ∀ b e1, h b = some e1 → ∃ j, j < ws.length ∧ (ws ++ [(a, e)])[j]? = some (b, e1) := by
    intro b e1 hb
    obtain ⟨j, hj⟩ := h2 b e1 hb
    have hl := (List.getElem?_eq_some_iff.mp hj).1
    exact ⟨j, hl, by rw [List.getElem?_append_left hl]; exact hj⟩
  refine ⟨?_, fun b e1 hb => ?_⟩
  · cases hq : h a with
    | none => rfl
    | some e1 =>
      obtain ⟨j, hl, hj⟩ := old a e1 hq
      have := hD.1 j ws.length _ _ hj hs rfl
      omega
  · by_cases n : b = a
    · subst n
      rw [f_up_s] at hb
      cases hb
      exact ⟨hP _ _ hs, hD.2 _ _ hs⟩
    · rw [f_up_n n] at hb
      obtain ⟨j, -, hj⟩ := old b e1 hb
      exact ⟨hP j _ hj, hD.2 j _ hj⟩
/-- which words of the tables last -/
def q_nest : Cond → Bool
  | .fieldLinkNest .. => true
  | .methodLinkNest .. => true
  | _ => false
def q_arr : Cond → Bool
  | .arrayClass _ => true
  | _ => false
def q_lasts (w : Cond) : Bool := (w.onTables && (w.keepsFace || q_nest w)) || q_arr w
def lw_T : List Cond := lw_tbl.filter q_lasts
theorem lw_T_mem {w : Cond} (h : w ∈ lw_tbl) (k : q_lasts w = true) : w ∈ lw_T := List.mem_filter.mpr ⟨h, k⟩
theorem va_lwT {w : Cond} (hw : w ∈ lw_T) {a a' : Array Value} {u U : State} (hvm : u.vm = U.vm) (h : w.before a u = true) : w.before a' U = true := by
  have k := (List.mem_filter.mp hw).2
  unfold q_lasts at k
  rw [Bool.or_eq_true] at k
  rcases k with k | k
  · rw [Bool.and_eq_true] at k
    exact va_tabs k.1 hvm h
  · cases w with
    | arrayClass ty => exact word_at (s := u) (U := U) (by rw [← hvm]; exact State.WarmedH.refl _) (Or.inr ⟨ty, rfl⟩) h
    | _ => cases k
theorem lwT_warm {w : Cond} {a a' : Array Value} {s U : State} (hW : s.WarmedH U.vm) (hw : w ∈ lw_T) (h : w.before a s = true) : w.before a' U = true := by
  have k := (List.mem_filter.mp hw).2
  unfold q_lasts at k
  rw [Bool.or_eq_true] at k
  rcases k with k | k
  · rw [Bool.and_eq_true, Bool.or_eq_true] at k
    obtain ⟨k1, k2 | k2⟩ := k
    · exact va_tabs k1 (rfl : (s.setVm U.vm).vm = U.vm) (Cond.before_shiftedFace (State.Shifted.of_warmed hW) _ k2 h)
    · cases w with
      | fieldLinkNest a i b n d h9 => exact va_tabs k1 (rfl : (s.setVm U.vm).vm = U.vm) (Cond.fieldLinkNest_warmed hW h)
      | methodLinkNest a i x h9 => exact va_tabs k1 (rfl : (s.setVm U.vm).vm = U.vm) (Cond.methodLinkNest_warmed hW h)
      | _ => cases k2
  · cases w with
    | arrayClass ty => exact word_at hW (Or.inr ⟨ty, rfl⟩) h
    | _ => cases k
/-- the numbers of the classes, of the arrays' classes, the address of the empty list's array -/
abbrev gT : Type := va_G × (Nat → ClassId) × Nat
abbrev qtys (g : gT) : List (ClassId × FieldType) := [(g.2.1 0, .int), (g.2.1 1, .boolean), (g.2.1 2, .object "java/lang/Object"), (g.2.1 3, .array .int)]
def KK (g : gT) (U : State) : Prop := va_K g.1 vwCl (qtys g) U ∧ ∀ w ∈ lw_T, w.before #[] U = true
def q_strs : List (String × Nat × String) := [("RackPlanner", 243, "out of range"), ("RackPlanner", 59, "no more racks"), ("RackPlanner", 80, "the row's machines are above that"), ("RackPlanner", 96, "the worst on the feed is above that"), ("RackPlanner", 115, "no more machines"), ("RackPlanner", 121, "the machine fits nowhere"), ("RackPlanner", 248, "no such machine"), ("RackPlanner", 154, "the worst on a feed would be above its limit"), ("RackPlanner", 246, "no such rack"), ("RackPlanner", 186, "no such slot")]
/-- what the start gives of statics and strings -/
def ST (g : gT) (A : Nat → Prop) (U : State) (H : Heap) : Prop :=
  (vx_Zq Bundle.tN "UNASSIGNED_STACK" Bundle.steD A U H ∧ vx_Zq Bundle.tN "SUPPRESSED_SENTINEL" Bundle.listD A U H) ∧
  (va_Z "java/util/ArrayList" "DEFAULTCAPACITY_EMPTY_ELEMENTDATA" "[Ljava/lang/Object;" (.ref g.2.2) A U H ∧ (∃ ce : Cell, H[g.2.2]? = some ce ∧ U.isArrayOf ce (.object "java/lang/Object") ∧ ce.vm ≠ .unknown ∧ ce.slots.size = 0) ∧ ¬ A g.2.2) ∧
  (∀ q ∈ q_strs, ∃ a, vk_R q.1 q.2.1 q.2.2 a U) ∧ va_Mi "[Ljava/lang/Object;" (g.2.1 5) U ∧ va_AO "java/lang/Object" U ∧ va_AOA .int U
/-- what every method finds at its start, of a heap h in the places A -/
def PS (g : gT) (A : Nat → Prop) (h : fH) (U : State) : Prop := f_at g.1 A h U.heap ∧ KK g U ∧ ST g A U U.heap ∧ ∀ q, U.heap.size ≤ q → A q
def q_Q (g : gT) (A : Nat → Prop) (post : Option Value → fH → Prop) : Array Value → State → Outcome → State → Prop := fun _ st o t => ∃ (v : Option Value) (h' : fH), o = .returned v ∧ post v h' ∧ f_at g.1 A h' t.heap ∧ va_F A st t
def q_X (g : gT) (A : Nat → Prop) (px : String → fH → Prop) : String → State → State → Prop := fun E st t => ∃ h' : fH, px E h' ∧ f_at g.1 A h' t.heap ∧ va_F A st t
/-- a method's contract: from the heap h, with the arguments av, it comes to its end with what post says of value and heap, or throws with what px says -/
def CM (l : Launch) (g : gT) (y : MethodName) (cc : ByteArray) (nl : Nat) (ret : Option FieldType) (rm : Room) (av : List Value) (h : fH) (post : Option Value → fH → Prop) (px : String → fH → Prop) : Prop :=
  l.stackTraces = false → ∀ A : Nat → Prop, vx_Met l y [.code y cc nl ret] rm (va_Pc av (PS g A h)) (q_Q g A post) (q_X g A px) rm.cells rm.slots A
abbrev noX : String → fH → Prop := fun _ _ => False
def Fx (p : Program) (l : Launch) (s : State) (m : MethodId) (args : Array Value) (meth : Method) (c : Code) (cc : ByteArray) (nl : Nat) (ret : Option FieldType) (own : String) (g : gT) (A : Nat → Prop) : Prop :=
  p.tables.exec = Jvm.exec ∧ c.code = cc ∧ c.maxLocals = nl ∧ meth.sig.returnType = ret ∧ s.vm.findClass own = some m.cls ∧ meth.locks = false ∧ KK g s ∧ ST g A s s.heap ∧ (∀ q, s.heap.size ≤ q → A q) ∧ l.stackTraces = false ∧ ∀ w ∈ lw_T, w.before args s = true
/-- the locals -/
def v_lo (ls : Array Slot) (nl : Nat) (lo : List (Option Value)) : Prop := ls.size = nl ∧ lv_wf ls ∧ ∀ (i : Nat) (v : Value), lo[i]? = some (some v) → v.category = 1 ∧ ls[i]? = some (.val v)
def V (p : Program) (l : Launch) (e : Env) (R : Room) (s : State) (m : MethodId) (args : Array Value) (below : List Frame) (meth : Method) (c : Code) (Q : State → Prop) (nl : Nat) (g : gT) (A : Nat → Prop) (h : fH) (cells slots pc : Nat) (lo : List (Option Value)) (st : List Value) : Prop :=
  ∀ (H : Heap) (locs : List Loc) (ls : Array Slot), f_at g.1 A h H → va_S A s.heap H locs → v_lo ls nl lo → W p l e R s m args below meth c H locs cells slots Q (F0 m pc ls st)
theorem v_lo.has {ls : Array Slot} {nl : Nat} {lo : List (Option Value)} (h : v_lo ls nl lo) : lv_has ls nl [] := ⟨h.1, h.2.1, fun _ q => by cases q⟩
theorem v_lo.set {ls : Array Slot} {nl : Nat} {lo : List (Option Value)} (h : v_lo ls nl lo) {i : Nat} {v : Value} (hi : i < nl) (hv : v.category = 1) : ∃ ls', storeLocals ls i v = some ls' ∧ v_lo ls' nl (lo.set i (some v)) := by
  obtain ⟨ls', e1, e2⟩ := lv_store1 (l := []) h.has hi hv
  refine ⟨ls', e1, e2.1, e2.2.1, fun j w hj => ?_⟩
  by_cases hij : i = j
  · subst hij
    rw [List.getElem?_set] at hj
    rw [if_pos rfl] at hj
    split at hj
    · cases hj
      exact ⟨hv, e2.2.2 (i, v) List.mem_cons_self⟩
    · cases hj
  · rw [List.getElem?_set_ne hij] at hj
    obtain ⟨a1, a2⟩ := h.2.2 j w hj
    have h3 : lv_has ls nl [(j, w)] := ⟨h.1, h.2.1, fun q hq => by rw [List.mem_singleton] at hq; subst hq; exact a2⟩
    obtain ⟨ls2, f1, f2⟩ := lv_store1 h3 hi hv
    cases e1.symm.trans f1
    refine ⟨a1, f2.2.2 (j, w) (List.mem_cons_of_mem _ (List.mem_filter.mpr ⟨List.mem_singleton_self _, ?_⟩))⟩
    simp [Ne.symm hij, a1]
/-- statics move with the machine's tables -/
theorem ST.moved {g : gT} {A : Nat → Prop} {u U : State} {H : Heap} (hvm : u.vm.Alike U.vm) (hs : ∀ own k tx a, vk_R own k tx a u → vk_R own k tx a U) (h : ST g A u H) : ST g A U H := by
  obtain ⟨⟨a1, a2⟩, ⟨b1, ⟨ce, z1, z2, z3⟩, b3⟩, c1, d1, d2, d3⟩ := h
  exact ⟨⟨a1.moved hvm, a2.moved hvm⟩, ⟨va_Z.moved hvm b1, ⟨ce, z1, State.isArrayOf_alike hvm z2, z3⟩, b3⟩, fun q hq => by (obtain ⟨a, ha⟩ := c1 q hq; exact ⟨a, hs _ _ _ _ ha⟩), va_Mi.moved hvm d1, va_AO.moved hvm d2, over_moved (a := #[]) (a' := #[]) hvm d3⟩
set_option maxRecDepth 100000 in
theorem tw_ac0 : Cond.arrayClass .int ∈ lw_T := lw_T_mem (by decide +kernel) (by decide +kernel)
set_option maxRecDepth 100000 in
theorem tw_ac1 : Cond.arrayClass .boolean ∈ lw_T := lw_T_mem (by decide +kernel) (by decide +kernel)
section VROWS
variable {p : Program} {l : Launch} {e : Env} {R : Room} {s : State} {m : MethodId} {args : Array Value} {below : List Frame} {meth : Method} {c : Code} {Q : State → Prop} {nl : Nat} {g : gT} {A : Nat → Prop} {h : fH} {cells slots pc : Nat} {lo : List (Option Value)} {st : List Value} {cc : ByteArray} {ret : Option FieldType} {own : String}
/-- another way to say the same state -/
theorem V.to {pc' : Nat} {lo' : List (Option Value)} {st' : List Value} (k : V p l e R s m args below meth c Q nl g A h cells slots pc' lo' st') (h1 : pc = pc') (h2 : lo = lo') (h3 : st = st') : V p l e R s m args below meth c Q nl g A h cells slots pc lo st := by
  subst h1; subst h2; subst h3; exact k
theorem v_iconst (F : Fx p l s m args meth c cc nl ret own g A) {n : Int} (d : decode cc pc = .ok (.iconst n, 1)) (k : V p l e R s m args below meth c Q nl g A h cells slots (pc + 1) lo (.int (iI n) :: st)) : V p l e R s m args below meth c Q nl g A h cells slots pc lo st :=
  fun H locs ls hP hS hl => lv_iconst F.1 F.2.1 d rfl (k H locs ls hP hS hl)
theorem v_bipush (F : Fx p l s m args meth c cc nl ret own g A) {n : Int} (d : decode cc pc = .ok (.bipush n, 2)) (hn : (Int8.ofInt n).toInt32 = iI n) (k : V p l e R s m args below meth c Q nl g A h cells slots (pc + 2) lo (.int (iI n) :: st)) : V p l e R s m args below meth c Q nl g A h cells slots pc lo st :=
  fun H locs ls hP hS hl => lv_bipush F.1 F.2.1 d hn (k H locs ls hP hS hl)
theorem v_sipush (F : Fx p l s m args meth c cc nl ret own g A) {n : Int} (d : decode cc pc = .ok (.sipush n, 3)) (hn : (Int16.ofInt n).toInt32 = iI n) (k : V p l e R s m args below meth c Q nl g A h cells slots (pc + 3) lo (.int (iI n) :: st)) : V p l e R s m args below meth c Q nl g A h cells slots pc lo st :=
  fun H locs ls hP hS hl => lv_sipush F.1 F.2.1 d hn (k H locs ls hP hS hl)
theorem v_iload_n (F : Fx p l s m args meth c cc nl ret own g A) {i : Fin 4} {x : Int32} (d : decode cc pc = .ok (.iload_n i, 1)) (hi : lo[(i : Nat)]? = some (some (.int x))) (k : V p l e R s m args below meth c Q nl g A h cells slots (pc + 1) lo (.int x :: st)) : V p l e R s m args below meth c Q nl g A h cells slots pc lo st :=
  fun H locs ls hP hS hl => lv_iload_n F.1 F.2.1 d rfl (hl.2.2 _ _ hi).2 (k H locs ls hP hS hl)
theorem v_iload (F : Fx p l s m args meth c cc nl ret own g A) {i : Nat} {x : Int32} (d : decode cc pc = .ok (.iload i, 2)) (hi : lo[i]? = some (some (.int x))) (k : V p l e R s m args below meth c Q nl g A h cells slots (pc + 2) lo (.int x :: st)) : V p l e R s m args below meth c Q nl g A h cells slots pc lo st :=
  fun H locs ls hP hS hl => lv_iload F.1 F.2.1 d (hl.2.2 _ _ hi).2 (k H locs ls hP hS hl)
theorem v_aload_n (F : Fx p l s m args meth c cc nl ret own g A) {i : Fin 4} {x : Nat} (d : decode cc pc = .ok (.aload_n i, 1)) (hi : lo[(i : Nat)]? = some (some (.ref x))) (k : V p l e R s m args below meth c Q nl g A h cells slots (pc + 1) lo (.ref x :: st)) : V p l e R s m args below meth c Q nl g A h cells slots pc lo st :=
  fun H locs ls hP hS hl => lv_aload_n F.1 F.2.1 d rfl (hl.2.2 _ _ hi).2 (k H locs ls hP hS hl)
theorem v_aload (F : Fx p l s m args meth c cc nl ret own g A) {i : Nat} {x : Nat} (d : decode cc pc = .ok (.aload i, 2)) (hi : lo[i]? = some (some (.ref x))) (k : V p l e R s m args below meth c Q nl g A h cells slots (pc + 2) lo (.ref x :: st)) : V p l e R s m args below meth c Q nl g A h cells slots pc lo st :=
  fun H locs ls hP hS hl => lv_aload F.1 F.2.1 d (hl.2.2 _ _ hi).2 (k H locs ls hP hS hl)
end VROWS
