/-! ===== rows for the library's lists ===== -/
theorem iI_shr1 {a : Int} (ha : 0 ≤ a ∧ a ≤ 2147483647) : iI a >>> (iI 1 &&& 31) = iI (a / 2) := by
  rw [← Int32.toInt_inj, pk_shr (iI a) (iI 1 &&& 31) 1 (by decide), iI_toInt (by omega), iI_toInt (by omega), Int.shiftRight_eq_div_pow]
  rfl
/-- f, with n places of it from sp on at dp -/
def icp (f g : Int → Option Nat) (sp dp n : Int) : Int → Option Nat := fun j => if dp ≤ j ∧ j < dp + n then f (sp + (j - dp)) else g j
theorem icp_cpy {f g : Int → Option Nat} {sp dp n : Int} (h1 : 0 ≤ sp) (h2 : 0 ≤ dp) (h3 : 0 ≤ n) : va_cpy (fun k : Nat => f (k : Int)) (fun k : Nat => g (k : Int)) sp.toNat dp.toNat n.toNat = fun k : Nat => icp f g sp dp n (k : Int) := by
  funext k
  unfold icp
  by_cases h : dp ≤ (k : Int) ∧ (k : Int) < dp + n
  · rw [if_pos h, pk_cpy_in (by omega) (by omega)]
    congr 1
    omega
  · rw [if_neg h, pk_cpy_out (by omega)]
def icpI (f g : Int → Int) (sp dp n : Int) : Int → Int := fun j => if dp ≤ j ∧ j < dp + n then f (sp + (j - dp)) else g j
theorem icpI_cpy {f g : Int → Int} {sp dp n : Int} (h1 : 0 ≤ sp) (h2 : 0 ≤ dp) (h3 : 0 ≤ n) : va_cpy (fun k : Nat => iI (f (k : Int))) (fun k : Nat => iI (g (k : Int))) sp.toNat dp.toNat n.toNat = fun k : Nat => iI (icpI f g sp dp n (k : Int)) := by
  funext k
  unfold icpI
  by_cases h : dp ≤ (k : Int) ∧ (k : Int) < dp + n
  · rw [if_pos h, pk_cpy_in (by omega) (by omega)]
    congr 2
    omega
  · rw [if_neg h, pk_cpy_out (by omega)]
section VJ
variable {p : Program} {l : Launch} {e : Env} {R : Room} {s : State} {m : MethodId} {args : Array Value} {below : List Frame} {meth : Method} {c : Code} {Q : State → Prop} {nl : Nat} {g : gT} {A : Nat → Prop} {h : fH} {cells slots pc : Nat} {lo lo' : List (Option Value)} {st : List Value} {cc : ByteArray} {ret : Option FieldType} {own : String}
theorem v_null (F : Fx p l s m args meth c cc nl ret own g A) (d : decode cc pc = .ok (.aconst_null, 1)) (k : V p l e R s m args below meth c Q nl g A h cells slots (pc + 1) lo (.null :: st)) : V p l e R s m args below meth c Q nl g A h cells slots pc lo st :=
  fun H locs ls hP hS hl => lv_null F.1 F.2.1 d (k H locs ls hP hS hl)
theorem v_ishr1 (F : Fx p l s m args meth c cc nl ret own g A) {a : Int} (d : decode cc pc = .ok (.ishr, 1)) (ha : 0 ≤ a ∧ a ≤ 2147483647) (k : V p l e R s m args below meth c Q nl g A h cells slots (pc + 1) lo (.int (iI (a / 2)) :: st)) : V p l e R s m args below meth c Q nl g A h cells slots pc lo (.int (iI 1) :: .int (iI a) :: st) :=
  fun H locs ls hP hS hl => lv_ishr F.1 F.2.1 d (by rw [iI_shr1 ha]; exact k H locs ls hP hS hl)
theorem v_acmp_eq (F : Fx p l s m args meth c cc nl ret own g A) {a b : Nat} {off : Int} (tgt : Nat) (d : decode cc pc = .ok (.if_acmp .eq off, 3)) (ht : (pc : Int) + off = (tgt : Int)) (kt : a = b → V p l e R s m args below meth c Q nl g A h cells slots tgt lo st) (kf : ¬ a = b → V p l e R s m args below meth c Q nl g A h cells slots (pc + 3) lo st) : V p l e R s m args below meth c Q nl g A h cells slots pc lo (.ref b :: .ref a :: st) :=
  fun H locs ls hP hS hl => lv_acmp_eq (rx := some a) (ry := some b) F.1 F.2.1 d ht (fun q => kt (Option.some.inj q) H locs ls hP hS hl) (fun q => kf (fun z => q (congrArg some z)) H locs ls hP hS hl)
theorem v_acmp_ne (F : Fx p l s m args meth c cc nl ret own g A) {a b : Nat} {off : Int} (tgt : Nat) (d : decode cc pc = .ok (.if_acmp .ne off, 3)) (ht : (pc : Int) + off = (tgt : Int)) (kt : ¬ a = b → V p l e R s m args below meth c Q nl g A h cells slots tgt lo st) (kf : a = b → V p l e R s m args below meth c Q nl g A h cells slots (pc + 3) lo st) : V p l e R s m args below meth c Q nl g A h cells slots pc lo (.ref b :: .ref a :: st) :=
  fun H locs ls hP hS hl => lv_acmp_ne (rx := some a) (ry := some b) F.1 F.2.1 d ht (fun q => kt (fun z => q (congrArg some z)) H locs ls hP hS hl) (fun q => kf (Option.some.inj q) H locs ls hP hS hl)
/-- the empty list's array -/
theorem v_gets (F : Fx p l s m args meth c cc nl ret own g A) {index : Nat} (lk : Cond.fieldLink own index "java/util/ArrayList" "DEFAULTCAPACITY_EMPTY_ELEMENTDATA" "[Ljava/lang/Object;" ∈ lw_T) (d : decode cc pc = .ok (.getstatic index, 3)) (k : V p l e R s m args below meth c Q nl g A h cells slots (pc + 3) lo (.ref g.2.2 :: st)) : V p l e R s m args below meth c Q nl g A h cells slots pc lo st := by
  intro H locs ls hP hS hl
  obtain ⟨hx, hb, hml, hr, hown, hlk, hK, hST, hA, hl9, hts⟩ := F
  exact va_gets hx hb hST.2.1.1 hS hown (hts _ lk) (fun x h9 => h9) d (k H locs ls hP hS hl)
theorem v_alen0 (F : Fx p l s m args meth c cc nl ret own g A) (d : decode cc pc = .ok (.arraylength, 1)) (k : V p l e R s m args below meth c Q nl g A h cells slots (pc + 1) lo (.int (iI 0) :: st)) : V p l e R s m args below meth c Q nl g A h cells slots pc lo (.ref g.2.2 :: st) := by
  intro H locs ls hP hS hl
  obtain ⟨hx, hb, hml, hr, hown, hlk, hK, hST, hA, hl9, hts⟩ := F
  obtain ⟨ce, z1, z2, z3, z4⟩ := hST.2.1.2.1
  have hb2 := (Array.getElem?_eq_some_iff.mp z1).1
  have hc : H[g.2.2]? = some ce := by rw [hS.2.1 _ hb2 hST.2.1.2.2]; exact z1
  exact W.alen (n := iI 0) hx hb hc z2 (by rw [z4]; exact iI_nat 0) rfl rfl d (k H locs ls hP hS hl)
theorem v_anewq (F : Fx p l s m args meth c cc nl ret own g A) {index n : Nat} (ck : Cond.classLink own index "java/lang/Object" ∈ lw_T) (d : decode cc pc = .ok (.anewarray index, 3)) (hn : n ≤ 1000) (h1 : cells + 1 ≤ R.cells) (h2 : slots + n ≤ R.slots) (kk : ∀ q, h q = none → V p l e R s m args below meth c Q nl g A (f_up h q (qar (g.2.1 2) n (fun _ => none))) (cells + 1) (slots + n) (pc + 3) lo (.ref q :: st)) : V p l e R s m args below meth c Q nl g A h cells slots pc lo (.int (iI (n : Int)) :: st) := by
  intro H locs ls hP hS hl
  obtain ⟨hx, hb, hml, hr, hown, hlk, hK, hST, hA, hl9, hts⟩ := F
  obtain ⟨ws, w1, w2, w3, w4⟩ := f_ws hP
  have e0 : (iI (n : Int)).toNatClampNeg = n := by rw [iI_cl (by omega)]; omega
  refine va_newq (D := g.1) hx hb hown (hts _ ck) hST.2.2.2.2.1 hK.1 w1 w2 hS hA (by rw [iI_0, iI_lt (by omega) (by omega)]; omega) e0 (by omega) h1 h2 d (fun q cA H1 k1 p1 p2 p3 => ?_)
  have e1 := (hK.1.2 2 (g.2.1 2, .object "java/lang/Object") rfl).2
  have e2 := (k1.2 4 (cA, .object "java/lang/Object") rfl).2
  cases Option.some.inj ((va_nmO e1 rfl).symm.trans (va_nmO e2 rfl))
  obtain ⟨n1, n2⟩ := f_add w3 p1 p2
  exact kk q n1 H1 locs ls n2 p3 hl
/-- an object into a list's array -/
theorem v_astq (F : Fx p l s m args meth c cc nl ret own g A) {a n v ci : Nat} {r : Int → Option Nat} {z : Int} {vs : List Value} {rr : vw_C} (d : decode cc pc = .ok (.aastore, 1)) (hc : h a = some (qar (g.2.1 2) n r)) (hz : 0 ≤ z ∧ z < n) (hn : n < 2147483648) (hv : h v = some (.inr (ci, vs))) (hcl : vwCl[ci]? = some rr) (hca : Cond.castable rr.1 "java/lang/Object" ∈ lw_T) {h' : fH} (hh : f_up h a (qar (g.2.1 2) n (iup r z (some v))) = h') (kk : V p l e R s m args below meth c Q nl g A h' cells slots (pc + 1) lo st) : V p l e R s m args below meth c Q nl g A h cells slots pc lo (.ref v :: .int (iI z) :: .ref a :: st) := by
  subst hh
  intro H locs ls hP hS hl
  obtain ⟨hx, hb, hml, hr, hown, hlk, hK, hST, hA, hl9, hts⟩ := F
  obtain ⟨ws, w1, w2, w3, w4⟩ := f_ws hP
  obtain ⟨q0, hq⟩ := w3 a _ hc
  obtain ⟨qk, hqk⟩ := w3 v _ hv
  refine va_astqO (D := g.1) hx hb hK.1 w1 w2 hS q0 2 qk ci hq rfl (va_Nw.of rfl (hts _ hca)) hqk hcl (iI_in hz hn) d (fun H1 locs1 p1 p2 p3 => kk H1 locs1 ls ?_ p3 hl)
  rw [iI_cl (by omega), iup_upq hz.1] at p1 p2
  exact f_set w3 hq p1 p2
theorem v_astN (F : Fx p l s m args meth c cc nl ret own g A) {a n : Nat} {r : Int → Option Nat} {z : Int} (d : decode cc pc = .ok (.aastore, 1)) (hc : h a = some (qar (g.2.1 2) n r)) (hz : 0 ≤ z ∧ z < n) (hn : n < 2147483648) {h' : fH} (hh : f_up h a (qar (g.2.1 2) n (iup r z none)) = h') (kk : V p l e R s m args below meth c Q nl g A h' cells slots (pc + 1) lo st) : V p l e R s m args below meth c Q nl g A h cells slots pc lo (.null :: .int (iI z) :: .ref a :: st) := by
  subst hh
  intro H locs ls hP hS hl
  obtain ⟨hx, hb, hml, hr, hown, hlk, hK, hST, hA, hl9, hts⟩ := F
  obtain ⟨ws, w1, w2, w3, w4⟩ := f_ws hP
  obtain ⟨q0, hq⟩ := w3 a _ hc
  refine va_astqN (D := g.1) hx hb hK.1 w1 w2 hS q0 2 hq rfl (iI_in hz hn) d (fun H1 locs1 p1 p2 p3 => kk H1 locs1 ls ?_ p3 hl)
  rw [iI_cl (by omega), iup_upq hz.1] at p1 p2
  exact f_set w3 hq p1 p2
/-- places of one list's array into another's, or its own -/
theorem v_copyq (F : Fx p l s m args meth c cc nl ret own g A) {index a0 a1 n0 n1 ci : Nat} {f f1 : Int → Option Nat} {sp dp n : Int} {rr : vw_C} (lk : Cond.methodLink own index arraycopyName ∈ lw_T) (hnat : Cond.native arraycopyName ∈ lw_T) (hstat : Cond.static arraycopyName ∈ lw_T) (hini : Cond.initialized "java/lang/System" ∈ lw_T) (d : decode cc pc = .ok (.invokestatic index, 3)) (hc0 : h a0 = some (qar (g.2.1 2) n0 f)) (hc1 : h a1 = some (qar (g.2.1 2) n1 f1)) (hb0 : n0 < 2147483648) (hb1 : n1 < 2147483648) (h1 : 0 ≤ sp) (h2 : 0 ≤ dp) (h3 : 0 ≤ n) (h4 : sp + n ≤ n0) (h5 : dp + n ≤ n1) (hcl : vwCl[ci]? = some rr) (hca : Cond.castable rr.1 "java/lang/Object" ∈ lw_T) (hel : ∀ i, sp ≤ i → i < sp + n → ∀ y, f i = some y → ∃ vs, h y = some (.inr (ci, vs))) (hfr : 1 ≤ R.frames) (hlo : (st.map fun v => v.category).sum + (nativeFrameWords "java/lang/System" "arraycopy" 5 + 11) ≤ R.locals) {h' : fH} (hh : f_up h a1 (qar (g.2.1 2) n1 (icp f f1 sp dp n)) = h') (kk : V p l e R s m args below meth c Q nl g A h' cells slots (pc + 3) lo st) : V p l e R s m args below meth c Q nl g A h cells slots pc lo (.int (iI n) :: .int (iI dp) :: .ref a1 :: .int (iI sp) :: .ref a0 :: st) := by
  subst hh
  intro H locs ls hP hS hl
  obtain ⟨hx, hb, hml, hr, hown, hlk, hK, hST, hA, hl9, hts⟩ := F
  obtain ⟨ws, w1, w2, w3, w4⟩ := f_ws hP
  obtain ⟨q0, hq0⟩ := w3 a0 _ hc0
  obtain ⟨q1, hq1⟩ := w3 a1 _ hc1
  have nn : ∀ z : Int, 0 ≤ z → z ≤ 2147483647 → ¬ iI z < 0 := fun z a b => by rw [iI_0, iI_lt (by omega) (by omega)]; omega
  refine va_copyq (D := g.1) (C := rr.1) (E0 := "java/lang/Object") (E1 := "java/lang/Object") hx hb (hml.trans hl.1.symm) hown (hts _ lk) (hts _ hnat) (hts _ hstat) (hts _ hini) hK.1 w1 w2 hS q0 q1 2 2 hq0 hq1 rfl rfl (nn _ h1 (by omega)) (nn _ h2 (by omega)) (nn _ h3 (by omega)) (by rw [iI_cl (by omega), iI_cl (by omega)]; omega) (by rw [iI_cl (by omega), iI_cl (by omega)]; omega) (fun i hi y hy => ?_) (fun comp c0 e1 e2 => ?_) hfr hlo d (fun H1 locs1 p1 p2 p3 => kk H1 locs1 ls ?_ p3 hl)
  · rw [iI_cl (by omega)] at hi hy
    obtain ⟨vs, hvs⟩ := hel _ (by omega) (by omega) y hy
    obtain ⟨q', g0, cell, g1, g2, g3, -⟩ := (hP y _ hvs).1
    exact ⟨cell, g1, by rw [g3]; rfl, by rw [g2]; exact (hK.1.1 ci _ hcl).2.1⟩
  · obtain ⟨c2, t2, f1', f2', f3'⟩ := Cond.castable_spec (hts _ hca)
    cases e1.symm.trans f2'
    cases e2.symm.trans f1'
    exact f3'
  · rw [iI_cl (by omega), iI_cl (by omega), iI_cl (by omega), icp_cpy h1 h2 h3] at p1 p2
    exact f_set w3 hq1 p1 p2
theorem v_copyi (F : Fx p l s m args meth c cc nl ret own g A) {index a0 a1 n0 n1 : Nat} {f f1 : Int → Int} {sp dp n : Int} (lk : Cond.methodLink own index arraycopyName ∈ lw_T) (hnat : Cond.native arraycopyName ∈ lw_T) (hstat : Cond.static arraycopyName ∈ lw_T) (hini : Cond.initialized "java/lang/System" ∈ lw_T) (d : decode cc pc = .ok (.invokestatic index, 3)) (hc0 : h a0 = some (iar (g.2.1 0) n0 f)) (hc1 : h a1 = some (iar (g.2.1 0) n1 f1)) (hb0 : n0 < 2147483648) (hb1 : n1 < 2147483648) (h1 : 0 ≤ sp) (h2 : 0 ≤ dp) (h3 : 0 ≤ n) (h4 : sp + n ≤ n0) (h5 : dp + n ≤ n1) (hfr : 1 ≤ R.frames) (hlo : (st.map fun v => v.category).sum + (nativeFrameWords "java/lang/System" "arraycopy" 5 + 11) ≤ R.locals) {h' : fH} (hh : f_up h a1 (iar (g.2.1 0) n1 (icpI f f1 sp dp n)) = h') (kk : V p l e R s m args below meth c Q nl g A h' cells slots (pc + 3) lo st) : V p l e R s m args below meth c Q nl g A h cells slots pc lo (.int (iI n) :: .int (iI dp) :: .ref a1 :: .int (iI sp) :: .ref a0 :: st) := by
  subst hh
  intro H locs ls hP hS hl
  obtain ⟨hx, hb, hml, hr, hown, hlk, hK, hST, hA, hl9, hts⟩ := F
  obtain ⟨ws, w1, w2, w3, w4⟩ := f_ws hP
  obtain ⟨q0, hq0⟩ := w3 a0 _ hc0
  obtain ⟨q1, hq1⟩ := w3 a1 _ hc1
  have nn : ∀ z : Int, 0 ≤ z → z ≤ 2147483647 → ¬ iI z < 0 := fun z a b => by rw [iI_0, iI_lt (by omega) (by omega)]; omega
  refine va_copyi (D := g.1) (ty := .int) hx hb (hml.trans hl.1.symm) hown (hts _ lk) (hts _ hnat) (hts _ hstat) (hts _ hini) hK.1 w1 w2 hS q0 q1 0 0 hq0 hq1 rfl rfl rfl (nn _ h1 (by omega)) (nn _ h2 (by omega)) (nn _ h3 (by omega)) (by rw [iI_cl (by omega), iI_cl (by omega)]; omega) (by rw [iI_cl (by omega), iI_cl (by omega)]; omega) (fun i hi => rfl) hfr hlo d (fun H1 locs1 p1 p2 p3 => kk H1 locs1 ls ?_ p3 hl)
  rw [iI_cl (by omega), iI_cl (by omega), iI_cl (by omega), icpI_cpy h1 h2 h3] at p1 p2
  exact f_set w3 hq1 p1 p2
theorem v_ldcM (F : Fx p l s m args meth c cc nl ret own g A) {index mi : Nat} {C : String} (ck : Cond.classLink own index C ∈ lw_T) (hM : va_Mi C mi s) (d : decode cc pc = .ok (.ldc index, 2)) (k : V p l e R s m args below meth c Q nl g A h cells slots (pc + 2) lo (.ref mi :: st)) : V p l e R s m args below meth c Q nl g A h cells slots pc lo st := by
  intro H locs ls hP hS hl
  obtain ⟨hx, hb, hml, hr, hown, hlk, hK, hST, hA, hl9, hts⟩ := F
  exact va_ldcM hx hb hown (hts _ ck) hM d (k H locs ls hP hS hl)
abbrev ygC : MethodName := ⟨"java/lang/Object", "getClass", "()Ljava/lang/Class;"⟩
theorem v_getC (F : Fx p l s m args meth c cc nl ret own g A) {index mi a n : Nat} {r : Int → Option Nat} (lk : Cond.methodLink own index ygC ∈ lw_T) (k1 : Cond.declares ygC ∈ lw_T) (k2 : Cond.selects "[Ljava/lang/Object;" ygC ygC ∈ lw_T) (k3 : Cond.instanceMethod ygC ∈ lw_T) (k4 : Cond.native ygC ∈ lw_T) (hM : va_Mi "[Ljava/lang/Object;" mi s) (d : decode cc pc = .ok (.invokevirtual index, 3)) (hc : h a = some (qar (g.2.1 2) n r)) (hfr : 1 ≤ R.frames) (hlo : (st.map fun v => v.category).sum + 14 ≤ R.locals) (k : V p l e R s m args below meth c Q nl g A h cells slots (pc + 3) lo (.ref mi :: st)) : V p l e R s m args below meth c Q nl g A h cells slots pc lo (.ref a :: st) := by
  intro H locs ls hP hS hl
  obtain ⟨hx, hb, hml, hr, hown, hlk, hK, hST, hA, hl9, hts⟩ := F
  have hc0 : H[a]? = some (vp_cell (g.2.1 2) (n, .inr (.inr (.inr (.inr (fun k => r (k : Int))))))) := (hP a _ hc).1
  exact va_getC hx hb (hml.trans hl.1.symm) hown (hts _ lk) (hts _ k1) (hts _ k2) (hts _ k3) (hts _ k4) hM ⟨_, hc0, rfl, va_nmO (hK.1.2 2 (g.2.1 2, .object "java/lang/Object") rfl).2 rfl⟩ hfr hlo d (k H locs ls hP hS hl)
theorem v_castS (F : Fx p l s m args meth c cc nl ret own g A) {index ci : Nat} {C : String} {T : u_T} {N a : Nat} {fs : List Value} (c1 : vwCl[ci]? = some (C, T, N)) (c2 : Cond.classLink own index C ∈ lw_T) (d : decode cc pc = .ok (.checkcast index, 3)) (hc : h a = some (.inr (ci, fs))) (kk : V p l e R s m args below meth c Q nl g A h cells slots (pc + 3) lo (.ref a :: st)) : V p l e R s m args below meth c Q nl g A h cells slots pc lo (.ref a :: st) := by
  intro H locs ls hP hS hl
  obtain ⟨hx, hb, hml, hr, hown, hlk, hK, hST, hA, hl9, hts⟩ := F
  obtain ⟨q', h1, cell, g1, g2, g3, -⟩ := (hP a _ hc).1
  have hcls := (hK.1.1 ci _ c1).2
  exact va_castS hx hb hown (hts _ c2) hcls ⟨cell, g1, by rw [g3]; rfl, by rw [g2]; exact hcls.1⟩ d (kk H locs ls hP hS hl)
end VJ
