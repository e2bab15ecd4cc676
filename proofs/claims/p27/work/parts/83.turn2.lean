/-! ===== the law: a turn, its loop ===== -/
def R_law : String := "RackPlannerLaw"
def lw_P (b : Addr) (xs : List Int32) (args : Array Value) (s : State) : Prop := args = #[.ref b] ∧ s.IntsAt b xs ∧ xs.length ≤ 260 ∧ (Jvm.Cond.and given_1 narrow_1).before args s = true
def lw_Q (_ : Array Value) (s : State) (o : Outcome) (t : State) : Prop := o = .returned (some (.int 1)) ∧ Framed s o t [] 674477 7078194
def lw_Z (below : List Frame) (a : Array Value) (s : State) : State → Prop := fun t => ∃ o, t.status = .running ∧ Ended t below o ∧ lw_Q a s o t
/-- the law's own end, with 1 on the stack, nothing written that was there before, its room as the claim has it -/
theorem lw_ret {p : Program} {l : Launch} {e : Env} {s : State} {m : MethodId} {below : List Frame} {meth : Method} {c : Code} {b : Nat} (hx : p.tables.exec = Jvm.exec) (hb : c.code = code) (hr : meth.sig.returnType = ret) (hlocks : meth.locks = false) {pc : Nat} {H : Heap} {ls : Array Slot} (hdg : decode code pc = .ok (.ireturn, 1)) : W p l e room_1 s m #[Value.ref b] below meth c H [] 674477 7078194 (lw_Z below #[Value.ref b] s) (F0 m pc ls [.int 1]) := by
  intro T hT X
  obtain ⟨fs, hret, hrun, hended, hW, hframe⟩ := X.leave (v := some (.int 1)) (hlocks := hlocks) (fun h => by rw [hr] at h; cases h)
  have hmeth' : T.vm.method? m = some meth := X.method'
  refine ⟨T.setFrames fs, ?_, .returned (some (.int 1)), hrun, hended, rfl, ⟨_, rfl⟩, hW, hframe⟩
  jvm_step X.here [X.here.top, hx, hb, hdg, hmeth', hr, ret, narrow_b1]
  (try refine ⟨rfl, ?_⟩); (try refine ⟨rfl, ?_⟩)
  first | (intro acts; rw [hret _ acts rfl rfl rfl]) | rw [hret _ _ rfl rfl rfl]
  exact Steps.refl _
/-- what holds at the law's entry: the machine, the code, the tables' words (any of lw_tbl by 'hts w (by decide +kernel)'), the script of L ints xs at the cell b, what the Statement gives of the start (any of its parts by flat_of_before) -/
def lw_At (p : Program) (s : State) (m : MethodId) (meth : Method) (c : Code) (b L : Nat) (xs : Nat → Int32) : Prop :=
  p.tables.exec = Jvm.exec ∧ c.code = code ∧ meth.sig.returnType = ret ∧ c.maxLocals = 24 ∧ s.vm.findClass R_law = some m.cls ∧ (∀ w ∈ lw_tbl, w.before #[Value.ref b] s = true) ∧ va_X b L xs s s.heap ∧ b < s.heap.size ∧ meth.locks = false ∧ (Jvm.Cond.and given_1 narrow_1).before #[Value.ref b] s = true
theorem v_lawret {p : Program} {l : Launch} {e : Env} {s : State} {m : MethodId} {below : List Frame} {meth : Method} {c : Code} {g : gT} {A : Nat → Prop} {b : Nat} (F : Fx p l s m #[Value.ref b] meth c cL_law 24 ret RL g A) (hAs : ∀ q, A q → s.heap.size ≤ q) {h : fH} {cells slots pc : Nat} {lo : List (Option Value)} (d : decode cL_law pc = .ok (.ireturn, 1)) (h1 : cells ≤ 674477) (h2 : slots ≤ 7078194) : V p l e room_1 s m #[Value.ref b] below meth c (lw_Z below #[Value.ref b] s) 24 g A h cells slots pc lo [.int (iI 1)] := by
  intro H locs ls hP hS hl
  have e1 : iI 1 = 1 := by decide
  rw [e1]
  exact va_forget (fun q hq => hAs _ (hS.2.2 q hq)) (W.widen h1 h2 (lw_ret F.1 F.2.1 F.2.2.2.1 F.2.2.2.2.2.1 d))
-- the law, from 156
set_option maxRecDepth 100000 in
set_option maxHeartbeats 8000000 in
theorem D_turn {pX : Program} {l : Launch} {eX : Env} {sS : State} {mX : MethodId} {args : Array Value} {below : List Frame} {meth : Method} {cX : Code} {Q : State → Prop} {g : gT} {AX : Nat → Prop} (F : Fx pX l sS mX args meth cX cL_law 24 ret RL g AX) {x a2 a3 a4 a5 b : Nat} {h0 : fH} {σ : sT} {k0 : fH} (X0 : SL g x h0 σ k0) (hAR : AR g k0 a2 a3 a4 a5 σ) {tn t xx : Int} (hgv : σ 18 0 < 900) (hxx : -2147483648 ≤ xx ∧ xx ≤ 2147483647) (ht : 0 ≤ t ∧ t < 180) {cells slots : Nat} (hc : cells + 2700 ≤ 674477) (hs : slots + 33700 ≤ 7078194) (kk : ∀ (h2 : fH) (σ2 : sT) (k2 : fH), SL g x h2 σ2 k2 → AR g k2 a2 a3 a4 a5 σ2 → 0 ≤ σ2 18 0 → σ2 18 0 ≤ σ 18 0 + 2 → V pX l eX room_1 sS mX args below meth cX Q 24 g AX h2 (cells + 2700) (slots + 33700) 112 [some (.ref b), some (.ref x), some (.ref a2), some (.ref a3), some (.ref a4), some (.ref a5), some (.int (iI (σ2 18 0))), some (.int (iI (1))), some (.int (iI (tn))), some (.int (iI (t + 1))), none, none, none, none, none, none, none, none, none, none, none, none, none, none] []) : V pX l eX room_1 sS mX args below meth cX Q 24 g AX (h0) (cells) (slots) 156 [some (.ref b), some (.ref x), some (.ref a2), some (.ref a3), some (.ref a4), some (.ref a5), some (.int (iI (σ 18 0))), some (.int (iI (1))), some (.int (iI (tn))), some (.int (iI (t))), none, none, none, none, none, none, none, none, none, none, none, none, none, none] [.int (iI (xx))] := by
  have hIV := X0.iv
  have hm := mb_nm hIV.1
  have hn := mb_nr hIV.1
  have h18 : (0 : Int) ≤ σ 18 0 := (hIV.1 18 0 (by decide) (by decide)).1
  have hAR0 := hAR
  obtain ⟨⟨d23, d24, d25, d34, d35, d45⟩, SF, LF, WF, MF, q2, q3, q4, q5, hS, hM⟩ := hAR
  obtain ⟨fs0, o0⟩ := X0.obj
  have mx := maI_rng xx (m := 15) (by decide)
  refine v_istore F (pc := 156) (lo' := [some (.ref b), some (.ref x), some (.ref a2), some (.ref a3), some (.ref a4), some (.ref a5), some (.int (iI (σ 18 0))), some (.int (iI (1))), some (.int (iI (tn))), some (.int (iI (t))), some (.int (iI (xx))), none, none, none, none, none, none, none, none, none, none, none, none, none]) dL_law_156 (Nat.le_of_ble_eq_true rfl) rfl ?_
  refine v_iload F (pc := 158) dL_law_158 rfl ?_
  refine v_iconst F (pc := 160) dL_law_160 ?_
  refine v_ishrM F (pc := 161) (a := xx) (b := 4) dL_law_161 ?_
  obtain ⟨y, ey⟩ : ∃ z, shI xx 4 = z := ⟨_, rfl⟩
  rw [ey]
  have hy : -2147483648 ≤ y ∧ y ≤ 2147483647 := by rw [← ey]; exact shI_rng _ _
  have n1 := maI_rng (shI y 8) (m := 255) (by decide)
  have n2 := maI_rng (shI y 10) (m := 15) (by decide)
  have n3 := maI_rng y (m := 3) (by decide)
  have n4 := maI_rng (shI y 14) (m := 7) (by decide)
  have n5 := maI_rng (shI y 17) (m := 255) (by decide)
  have n6 := maI_rng y (m := 65535) (by decide)
  refine v_istore F (pc := 162) (lo' := [some (.ref b), some (.ref x), some (.ref a2), some (.ref a3), some (.ref a4), some (.ref a5), some (.int (iI (σ 18 0))), some (.int (iI (1))), some (.int (iI (tn))), some (.int (iI (t))), some (.int (iI (xx))), some (.int (iI (y))), none, none, none, none, none, none, none, none, none, none, none, none]) dL_law_162 (Nat.le_of_ble_eq_true rfl) rfl ?_
  refine v_iload F (pc := 164) dL_law_164 rfl ?_
  refine v_iconst F (pc := 166) dL_law_166 ?_
  refine v_icmp_ge F (pc := 167) (a := t) (b := 2) 174 dL_law_167 (by decide) (by omega) (by omega) (fun c_1 => ?_) (fun c_1 => ?_)
  · refine v_iload F (pc := 174) dL_law_174 rfl ?_
    refine v_bipush F (pc := 176) dL_law_176 (by decide) ?_
    refine v_iandM F (pc := 178) (a := xx) (b := 15) dL_law_178 ?_
    refine v_istore F (pc := 179) (lo' := [some (.ref b), some (.ref x), some (.ref a2), some (.ref a3), some (.ref a4), some (.ref a5), some (.int (iI (σ 18 0))), some (.int (iI (1))), some (.int (iI (tn))), some (.int (iI (t))), some (.int (iI (xx))), some (.int (iI (y))), some (.int (iI (maI xx 15))), none, none, none, none, none, none, none, none, none, none, none]) dL_law_179 (Nat.le_of_ble_eq_true rfl) rfl ?_
    refine v_iconst F (pc := 181) dL_law_181 ?_
    refine v_iload F (pc := 182) dL_law_182 rfl ?_
    refine v_bipush F (pc := 184) dL_law_184 (by decide) ?_
    refine v_ishrM F (pc := 186) (a := y) (b := 8) dL_law_186 ?_
    refine v_sipush F (pc := 187) dL_law_187 (by decide) ?_
    refine v_iandM F (pc := 190) (a := shI y 8) (b := 255) dL_law_190 ?_
    refine v_bipush F (pc := 191) dL_law_191 (by decide) ?_
    refine v_irem F (pc := 193) (a := maI (shI y 8) 255) (b := 6) dL_law_193 (by omega) (by omega) ?_
    refine v_iadd F (pc := 194) (a := 1) (b := (maI (shI y 8) 255) % 6) dL_law_194 ?_
    obtain ⟨sz, esz⟩ : ∃ z, 1 + ((maI (shI y 8) 255) % 6) = z := ⟨_, rfl⟩
    rw [esz]
    refine v_istore F (pc := 195) (lo' := [some (.ref b), some (.ref x), some (.ref a2), some (.ref a3), some (.ref a4), some (.ref a5), some (.int (iI (σ 18 0))), some (.int (iI (1))), some (.int (iI (tn))), some (.int (iI (t))), some (.int (iI (xx))), some (.int (iI (y))), some (.int (iI (maI xx 15))), some (.int (iI (sz))), none, none, none, none, none, none, none, none, none, none]) dL_law_195 (Nat.le_of_ble_eq_true rfl) rfl ?_
    refine v_iload F (pc := 197) dL_law_197 rfl ?_
    refine v_bipush F (pc := 199) dL_law_199 (by decide) ?_
    refine v_ishrM F (pc := 201) (a := y) (b := 10) dL_law_201 ?_
    refine v_bipush F (pc := 202) dL_law_202 (by decide) ?_
    refine v_iandM F (pc := 204) (a := shI y 10) (b := 15) dL_law_204 ?_
    refine v_bipush F (pc := 205) dL_law_205 (by decide) ?_
    refine v_imul F (pc := 207) (a := maI (shI y 10) 15) (b := 60) dL_law_207 ?_
    refine v_iload F (pc := 208) dL_law_208 rfl ?_
    refine v_iconst F (pc := 210) dL_law_210 ?_
    refine v_iandM F (pc := 211) (a := y) (b := 3) dL_law_211 ?_
    refine v_iadd F (pc := 212) (a := (maI (shI y 10) 15) * 60) (b := maI y 3) dL_law_212 ?_
    obtain ⟨pw, epw⟩ : ∃ z, ((maI (shI y 10) 15) * 60) + (maI y 3) = z := ⟨_, rfl⟩
    rw [epw]
    refine v_istore F (pc := 213) (lo' := [some (.ref b), some (.ref x), some (.ref a2), some (.ref a3), some (.ref a4), some (.ref a5), some (.int (iI (σ 18 0))), some (.int (iI (1))), some (.int (iI (tn))), some (.int (iI (t))), some (.int (iI (xx))), some (.int (iI (y))), some (.int (iI (maI xx 15))), some (.int (iI (sz))), some (.int (iI (pw))), none, none, none, none, none, none, none, none, none]) dL_law_213 (Nat.le_of_ble_eq_true rfl) rfl ?_
    refine v_iload F (pc := 215) dL_law_215 rfl ?_
    refine v_bipush F (pc := 217) dL_law_217 (by decide) ?_
    refine v_ishrM F (pc := 219) (a := y) (b := 14) dL_law_219 ?_
    refine v_bipush F (pc := 220) dL_law_220 (by decide) ?_
    refine v_iandM F (pc := 222) (a := shI y 14) (b := 7) dL_law_222 ?_
    refine v_bipush F (pc := 223) dL_law_223 (by decide) ?_
    refine v_imul F (pc := 225) (a := maI (shI y 14) 7) (b := 90) dL_law_225 ?_
    obtain ⟨wt, ewt⟩ : ∃ z, (maI (shI y 14) 7) * 90 = z := ⟨_, rfl⟩
    rw [ewt]
    refine v_istore F (pc := 226) (lo' := [some (.ref b), some (.ref x), some (.ref a2), some (.ref a3), some (.ref a4), some (.ref a5), some (.int (iI (σ 18 0))), some (.int (iI (1))), some (.int (iI (tn))), some (.int (iI (t))), some (.int (iI (xx))), some (.int (iI (y))), some (.int (iI (maI xx 15))), some (.int (iI (sz))), some (.int (iI (pw))), some (.int (iI (wt))), none, none, none, none, none, none, none, none]) dL_law_226 (Nat.le_of_ble_eq_true rfl) rfl ?_
    refine v_iload F (pc := 228) dL_law_228 rfl ?_
    refine v_bipush F (pc := 230) dL_law_230 (by decide) ?_
    refine v_ishrM F (pc := 232) (a := y) (b := 17) dL_law_232 ?_
    refine v_sipush F (pc := 233) dL_law_233 (by decide) ?_
    refine v_iandM F (pc := 236) (a := shI y 17) (b := 255) dL_law_236 ?_
    refine v_iconst F (pc := 237) dL_law_237 ?_
    refine v_irem F (pc := 238) (a := maI (shI y 17) 255) (b := 3) dL_law_238 (by omega) (by omega) ?_
    obtain ⟨cd, ecd⟩ : ∃ z, (maI (shI y 17) 255) % 3 = z := ⟨_, rfl⟩
    rw [ecd]
    have hkd : cKD sz pw wt cd := by omega
    refine v_istore F (pc := 239) (lo' := [some (.ref b), some (.ref x), some (.ref a2), some (.ref a3), some (.ref a4), some (.ref a5), some (.int (iI (σ 18 0))), some (.int (iI (1))), some (.int (iI (tn))), some (.int (iI (t))), some (.int (iI (xx))), some (.int (iI (y))), some (.int (iI (maI xx 15))), some (.int (iI (sz))), some (.int (iI (pw))), some (.int (iI (wt))), some (.int (iI (cd))), none, none, none, none, none, none, none]) dL_law_239 (Nat.le_of_ble_eq_true rfl) rfl ?_
    refine v_iload F (pc := 241) dL_law_241 rfl ?_
    refine v_if_ne F (pc := 243) (a := σ 18 0) 250 dL_law_243 (by decide) (by omega) (fun c_2 => ?_) (fun c_2 => ?_)
    · refine v_iload F (pc := 250) dL_law_250 rfl ?_
      refine v_ldcI F (pc := 252) lk_98 dL_law_252 ?_
      refine v_iandM F (pc := 254) (a := y) (b := 65535) dL_law_254 ?_
      refine v_iload F (pc := 255) dL_law_255 rfl ?_
      refine v_irem F (pc := 257) (a := maI y 65535) (b := σ 18 0) dL_law_257 (by omega) (by omega) ?_
      obtain ⟨mm, emm⟩ : ∃ z, (maI y 65535) % (σ 18 0) = z := ⟨_, rfl⟩
      rw [emm]
      have hm0 : 0 ≤ mm := by rw [← emm]; exact Int.emod_nonneg _ (by omega)
      have hm1 : mm < σ 18 0 := by rw [← emm]; exact Int.emod_lt_of_pos _ (by omega)
      refine v_istore F (pc := 258) (lo' := [some (.ref b), some (.ref x), some (.ref a2), some (.ref a3), some (.ref a4), some (.ref a5), some (.int (iI (σ 18 0))), some (.int (iI (1))), some (.int (iI (tn))), some (.int (iI (t))), some (.int (iI (xx))), some (.int (iI (y))), some (.int (iI (maI xx 15))), some (.int (iI (sz))), some (.int (iI (pw))), some (.int (iI (wt))), some (.int (iI (cd))), some (.int (iI (mm))), none, none, none, none, none, none]) dL_law_258 (Nat.le_of_ble_eq_true rfl) rfl ?_
      refine v_iload F (pc := 260) dL_law_260 rfl ?_
      refine v_if_lt F (pc := 262) (a := mm) 278 dL_law_262 (by decide) (by omega) (fun c_3 => ?_) (fun c_3 => ?_)
      · exfalso; omega
      · refine v_aload_n F (pc := 265) dL_law_265 rfl ?_
        refine v_iload F (pc := 266) dL_law_266 rfl ?_
        refine v_callW F (pc := 268) (n := 2) (As := [.ref x, .int (iI (mm))]) (rest := []) lm_rack lx_L lc_rack ⟨by decide, by decide, by decide +kernel⟩ ls_rack (KH_rack l g X0 mm (by omega)) dL_law_268 rfl rfl (Nat.le_of_ble_eq_true rfl) (Nat.le_of_ble_eq_true rfl) (Nat.le_of_ble_eq_true rfl) (show cells + 1 ≤ 674477 by omega) (show slots + 6 ≤ 7078194 by omega) (fun v_ h1 hp_ => ?_)
        obtain ⟨rfl, X1⟩ := hp_
        obtain ⟨fs1, o1⟩ := X1.obj
        by_cases hfd : m_find σ mm = -1
        · rw [show (if fnd_c σ mm = 0 then σ 15 (m_find σ mm) else (-1 : Int)) = -1 from if_neg (show ¬ fnd_c σ mm = 0 from by unfold fnd_c; rw [if_pos hfd]; decide)]
          refine v_if_lt F (pc := 271) (a := -1) 278 dL_law_271 (by decide) (by omega) (fun c_4 => ?_) (fun c_4 => ?_)
          · refine v_iconst F (pc := 278) dL_law_278 ?_
            refine v_istore F (pc := 279) (lo' := [some (.ref b), some (.ref x), some (.ref a2), some (.ref a3), some (.ref a4), some (.ref a5), some (.int (iI (σ 18 0))), some (.int (iI (1))), some (.int (iI (tn))), some (.int (iI (t))), some (.int (iI (xx))), some (.int (iI (y))), some (.int (iI (maI xx 15))), some (.int (iI (sz))), some (.int (iI (pw))), some (.int (iI (wt))), some (.int (iI (cd))), some (.int (iI (mm))), some (.int (iI (0))), none, none, none, none, none]) dL_law_279 (Nat.le_of_ble_eq_true rfl) rfl ?_
            refine v_aload_n F (pc := 281) dL_law_281 rfl ?_
            refine v_callV F (pc := 282) (As := []) (rest := []) ci_L_41 ct_X4_machines cs_X4_machines (N_machines l g X1) dL_law_282 (k0 := 7) rfl rfl o1 rfl rfl (Nat.le_of_ble_eq_true rfl) (Nat.le_of_ble_eq_true rfl) (Nat.le_of_ble_eq_true rfl) (show cells + 1 + 0 ≤ 674477 by omega) (show slots + 6 + 0 ≤ 7078194 by omega) (fun v_ h2 hp_ => ?_) (fun _ _ z => z.elim)
            obtain ⟨rfl, X2⟩ := hp_
            obtain ⟨fs2, o2⟩ := X2.obj
            refine v_istore F (pc := 285) (lo' := [some (.ref b), some (.ref x), some (.ref a2), some (.ref a3), some (.ref a4), some (.ref a5), some (.int (iI (σ 18 0))), some (.int (iI (1))), some (.int (iI (tn))), some (.int (iI (t))), some (.int (iI (xx))), some (.int (iI (y))), some (.int (iI (maI xx 15))), some (.int (iI (sz))), some (.int (iI (pw))), some (.int (iI (wt))), some (.int (iI (cd))), some (.int (iI (mm))), some (.int (iI (0))), some (.int (iI (σ 17 0))), none, none, none, none]) dL_law_285 (Nat.le_of_ble_eq_true rfl) rfl ?_
            exact V.fg (D_all F X2 hAR0 hkd (by omega) hy (show cells + 1 + 130 ≤ 674477 by omega) (show slots + 6 + 18100 ≤ 7078194 by omega) (d := maI xx 15) (mm := mm) (th := false) (by omega) (fun z => by cases z) (fun h2 σ2 k2 X2 hAR2 g0 g1 => D_end F X2 hAR2 hkd (by omega) (show cells + 1 + 130 + 2560 ≤ 674477 by omega) (show slots + 6 + 18100 + 15500 ≤ 7078194 by omega) (fun h3 σ3 X3 hAR3 g2 g3 => v_wid (show cells + 1 + 130 + 2560 ≤ cells + 2700 by omega) (show slots + 6 + 18100 + 15500 ≤ slots + 33700 by omega) (kk h3 σ3 k2 X3 hAR3 g2 (by omega))))) ⟨rfl, ⟨rfl, ⟨rfl, ⟨rfl, ⟨rfl, ⟨rfl, ⟨rfl, ⟨rfl, ⟨rfl, ⟨rfl, ⟨rfl, ⟨rfl, ⟨rfl, ⟨rfl, ⟨rfl, ⟨rfl, ⟨rfl, ⟨rfl, ⟨rfl, trivial⟩⟩⟩⟩⟩⟩⟩⟩⟩⟩⟩⟩⟩⟩⟩⟩⟩⟩⟩
          · exact absurd c_4 (by decide)
        · rw [show (if fnd_c σ mm = 0 then σ 15 (m_find σ mm) else (-1 : Int)) = σ 15 (m_find σ mm) from if_pos (if_neg hfd)]
          have hfv := find_v hIV.1 hfd
          have hfm := hIV.mach hfv.1 hfv.2.1
          refine v_if_lt F (pc := 271) (a := σ 15 (m_find σ mm)) 278 dL_law_271 (by decide) (by omega) (fun c_5 => ?_) (fun c_5 => ?_)
          · exfalso; omega
          · refine v_iconst F (pc := 274) dL_law_274 ?_
            refine v_goto F (pc := 275) 279 dL_law_275 (by decide) ?_
            refine v_istore F (pc := 279) (lo' := [some (.ref b), some (.ref x), some (.ref a2), some (.ref a3), some (.ref a4), some (.ref a5), some (.int (iI (σ 18 0))), some (.int (iI (1))), some (.int (iI (tn))), some (.int (iI (t))), some (.int (iI (xx))), some (.int (iI (y))), some (.int (iI (maI xx 15))), some (.int (iI (sz))), some (.int (iI (pw))), some (.int (iI (wt))), some (.int (iI (cd))), some (.int (iI (mm))), some (.int (iI (1))), none, none, none, none, none]) dL_law_279 (Nat.le_of_ble_eq_true rfl) rfl ?_
            refine v_aload_n F (pc := 281) dL_law_281 rfl ?_
            refine v_callV F (pc := 282) (As := []) (rest := []) ci_L_41 ct_X4_machines cs_X4_machines (N_machines l g X1) dL_law_282 (k0 := 7) rfl rfl o1 rfl rfl (Nat.le_of_ble_eq_true rfl) (Nat.le_of_ble_eq_true rfl) (Nat.le_of_ble_eq_true rfl) (show cells + 1 + 0 ≤ 674477 by omega) (show slots + 6 + 0 ≤ 7078194 by omega) (fun v_ h3 hp_ => ?_) (fun _ _ z => z.elim)
            obtain ⟨rfl, X3⟩ := hp_
            obtain ⟨fs3, o3⟩ := X3.obj
            refine v_istore F (pc := 285) (lo' := [some (.ref b), some (.ref x), some (.ref a2), some (.ref a3), some (.ref a4), some (.ref a5), some (.int (iI (σ 18 0))), some (.int (iI (1))), some (.int (iI (tn))), some (.int (iI (t))), some (.int (iI (xx))), some (.int (iI (y))), some (.int (iI (maI xx 15))), some (.int (iI (sz))), some (.int (iI (pw))), some (.int (iI (wt))), some (.int (iI (cd))), some (.int (iI (mm))), some (.int (iI (1))), some (.int (iI (σ 17 0))), none, none, none, none]) dL_law_285 (Nat.le_of_ble_eq_true rfl) rfl ?_
            exact V.fg (D_all F X3 hAR0 hkd (by omega) hy (show cells + 1 + 130 ≤ 674477 by omega) (show slots + 6 + 18100 ≤ 7078194 by omega) (d := maI xx 15) (mm := mm) (th := true) (by omega) (fun _ => ⟨m_find σ mm, rfl, hfv.1, by omega⟩) (fun h2 σ2 k2 X2 hAR2 g0 g1 => D_end F X2 hAR2 hkd (by omega) (show cells + 1 + 130 + 2560 ≤ 674477 by omega) (show slots + 6 + 18100 + 15500 ≤ 7078194 by omega) (fun h3 σ3 X3 hAR3 g2 g3 => v_wid (show cells + 1 + 130 + 2560 ≤ cells + 2700 by omega) (show slots + 6 + 18100 + 15500 ≤ slots + 33700 by omega) (kk h3 σ3 k2 X3 hAR3 g2 (by omega))))) ⟨rfl, ⟨rfl, ⟨rfl, ⟨rfl, ⟨rfl, ⟨rfl, ⟨rfl, ⟨rfl, ⟨rfl, ⟨rfl, ⟨rfl, ⟨rfl, ⟨rfl, ⟨rfl, ⟨rfl, ⟨rfl, ⟨rfl, ⟨rfl, ⟨rfl, trivial⟩⟩⟩⟩⟩⟩⟩⟩⟩⟩⟩⟩⟩⟩⟩⟩⟩⟩⟩
    · refine v_iconst F (pc := 246) dL_law_246 ?_
      refine v_goto F (pc := 247) 258 dL_law_247 (by decide) ?_
      refine v_istore F (pc := 258) (lo' := [some (.ref b), some (.ref x), some (.ref a2), some (.ref a3), some (.ref a4), some (.ref a5), some (.int (iI (σ 18 0))), some (.int (iI (1))), some (.int (iI (tn))), some (.int (iI (t))), some (.int (iI (xx))), some (.int (iI (y))), some (.int (iI (maI xx 15))), some (.int (iI (sz))), some (.int (iI (pw))), some (.int (iI (wt))), some (.int (iI (cd))), some (.int (iI (-1))), none, none, none, none, none, none]) dL_law_258 (Nat.le_of_ble_eq_true rfl) rfl ?_
      refine v_iload F (pc := 260) dL_law_260 rfl ?_
      refine v_if_lt F (pc := 262) (a := -1) 278 dL_law_262 (by decide) (by omega) (fun c_6 => ?_) (fun c_6 => ?_)
      · refine v_iconst F (pc := 278) dL_law_278 ?_
        refine v_istore F (pc := 279) (lo' := [some (.ref b), some (.ref x), some (.ref a2), some (.ref a3), some (.ref a4), some (.ref a5), some (.int (iI (σ 18 0))), some (.int (iI (1))), some (.int (iI (tn))), some (.int (iI (t))), some (.int (iI (xx))), some (.int (iI (y))), some (.int (iI (maI xx 15))), some (.int (iI (sz))), some (.int (iI (pw))), some (.int (iI (wt))), some (.int (iI (cd))), some (.int (iI (-1))), some (.int (iI (0))), none, none, none, none, none]) dL_law_279 (Nat.le_of_ble_eq_true rfl) rfl ?_
        refine v_aload_n F (pc := 281) dL_law_281 rfl ?_
        refine v_callV F (pc := 282) (As := []) (rest := []) ci_L_41 ct_X4_machines cs_X4_machines (N_machines l g X0) dL_law_282 (k0 := 7) rfl rfl o0 rfl rfl (Nat.le_of_ble_eq_true rfl) (Nat.le_of_ble_eq_true rfl) (Nat.le_of_ble_eq_true rfl) (show cells + 0 ≤ 674477 by omega) (show slots + 0 ≤ 7078194 by omega) (fun v_ h4 hp_ => ?_) (fun _ _ z => z.elim)
        obtain ⟨rfl, X4⟩ := hp_
        obtain ⟨fs4, o4⟩ := X4.obj
        refine v_istore F (pc := 285) (lo' := [some (.ref b), some (.ref x), some (.ref a2), some (.ref a3), some (.ref a4), some (.ref a5), some (.int (iI (σ 18 0))), some (.int (iI (1))), some (.int (iI (tn))), some (.int (iI (t))), some (.int (iI (xx))), some (.int (iI (y))), some (.int (iI (maI xx 15))), some (.int (iI (sz))), some (.int (iI (pw))), some (.int (iI (wt))), some (.int (iI (cd))), some (.int (iI (-1))), some (.int (iI (0))), some (.int (iI (σ 17 0))), none, none, none, none]) dL_law_285 (Nat.le_of_ble_eq_true rfl) rfl ?_
        exact V.fg (D_all F X4 hAR0 hkd (by omega) hy (show cells + 130 ≤ 674477 by omega) (show slots + 18100 ≤ 7078194 by omega) (d := maI xx 15) (mm := -1) (th := false) (by omega) (fun z => by cases z) (fun h2 σ2 k2 X2 hAR2 g0 g1 => D_end F X2 hAR2 hkd (by omega) (show cells + 130 + 2560 ≤ 674477 by omega) (show slots + 18100 + 15500 ≤ 7078194 by omega) (fun h3 σ3 X3 hAR3 g2 g3 => v_wid (show cells + 130 + 2560 ≤ cells + 2700 by omega) (show slots + 18100 + 15500 ≤ slots + 33700 by omega) (kk h3 σ3 k2 X3 hAR3 g2 (by omega))))) ⟨rfl, ⟨rfl, ⟨rfl, ⟨rfl, ⟨rfl, ⟨rfl, ⟨rfl, ⟨rfl, ⟨rfl, ⟨rfl, ⟨rfl, ⟨rfl, ⟨rfl, ⟨rfl, ⟨rfl, ⟨rfl, ⟨rfl, ⟨rfl, ⟨rfl, trivial⟩⟩⟩⟩⟩⟩⟩⟩⟩⟩⟩⟩⟩⟩⟩⟩⟩⟩⟩
      · exact absurd c_6 (by decide)
  · refine v_iconst F (pc := 170) dL_law_170 ?_
    refine v_goto F (pc := 171) 179 dL_law_171 (by decide) ?_
    refine v_istore F (pc := 179) (lo' := [some (.ref b), some (.ref x), some (.ref a2), some (.ref a3), some (.ref a4), some (.ref a5), some (.int (iI (σ 18 0))), some (.int (iI (1))), some (.int (iI (tn))), some (.int (iI (t))), some (.int (iI (xx))), some (.int (iI (y))), some (.int (iI (0))), none, none, none, none, none, none, none, none, none, none, none]) dL_law_179 (Nat.le_of_ble_eq_true rfl) rfl ?_
    refine v_iconst F (pc := 181) dL_law_181 ?_
    refine v_iload F (pc := 182) dL_law_182 rfl ?_
    refine v_bipush F (pc := 184) dL_law_184 (by decide) ?_
    refine v_ishrM F (pc := 186) (a := y) (b := 8) dL_law_186 ?_
    refine v_sipush F (pc := 187) dL_law_187 (by decide) ?_
    refine v_iandM F (pc := 190) (a := shI y 8) (b := 255) dL_law_190 ?_
    refine v_bipush F (pc := 191) dL_law_191 (by decide) ?_
    refine v_irem F (pc := 193) (a := maI (shI y 8) 255) (b := 6) dL_law_193 (by omega) (by omega) ?_
    refine v_iadd F (pc := 194) (a := 1) (b := (maI (shI y 8) 255) % 6) dL_law_194 ?_
    obtain ⟨sz, esz⟩ : ∃ z, 1 + ((maI (shI y 8) 255) % 6) = z := ⟨_, rfl⟩
    rw [esz]
    refine v_istore F (pc := 195) (lo' := [some (.ref b), some (.ref x), some (.ref a2), some (.ref a3), some (.ref a4), some (.ref a5), some (.int (iI (σ 18 0))), some (.int (iI (1))), some (.int (iI (tn))), some (.int (iI (t))), some (.int (iI (xx))), some (.int (iI (y))), some (.int (iI (0))), some (.int (iI (sz))), none, none, none, none, none, none, none, none, none, none]) dL_law_195 (Nat.le_of_ble_eq_true rfl) rfl ?_
    refine v_iload F (pc := 197) dL_law_197 rfl ?_
    refine v_bipush F (pc := 199) dL_law_199 (by decide) ?_
    refine v_ishrM F (pc := 201) (a := y) (b := 10) dL_law_201 ?_
    refine v_bipush F (pc := 202) dL_law_202 (by decide) ?_
    refine v_iandM F (pc := 204) (a := shI y 10) (b := 15) dL_law_204 ?_
    refine v_bipush F (pc := 205) dL_law_205 (by decide) ?_
    refine v_imul F (pc := 207) (a := maI (shI y 10) 15) (b := 60) dL_law_207 ?_
    refine v_iload F (pc := 208) dL_law_208 rfl ?_
    refine v_iconst F (pc := 210) dL_law_210 ?_
    refine v_iandM F (pc := 211) (a := y) (b := 3) dL_law_211 ?_
    refine v_iadd F (pc := 212) (a := (maI (shI y 10) 15) * 60) (b := maI y 3) dL_law_212 ?_
    obtain ⟨pw, epw⟩ : ∃ z, ((maI (shI y 10) 15) * 60) + (maI y 3) = z := ⟨_, rfl⟩
    rw [epw]
    refine v_istore F (pc := 213) (lo' := [some (.ref b), some (.ref x), some (.ref a2), some (.ref a3), some (.ref a4), some (.ref a5), some (.int (iI (σ 18 0))), some (.int (iI (1))), some (.int (iI (tn))), some (.int (iI (t))), some (.int (iI (xx))), some (.int (iI (y))), some (.int (iI (0))), some (.int (iI (sz))), some (.int (iI (pw))), none, none, none, none, none, none, none, none, none]) dL_law_213 (Nat.le_of_ble_eq_true rfl) rfl ?_
    refine v_iload F (pc := 215) dL_law_215 rfl ?_
    refine v_bipush F (pc := 217) dL_law_217 (by decide) ?_
    refine v_ishrM F (pc := 219) (a := y) (b := 14) dL_law_219 ?_
    refine v_bipush F (pc := 220) dL_law_220 (by decide) ?_
    refine v_iandM F (pc := 222) (a := shI y 14) (b := 7) dL_law_222 ?_
    refine v_bipush F (pc := 223) dL_law_223 (by decide) ?_
    refine v_imul F (pc := 225) (a := maI (shI y 14) 7) (b := 90) dL_law_225 ?_
    obtain ⟨wt, ewt⟩ : ∃ z, (maI (shI y 14) 7) * 90 = z := ⟨_, rfl⟩
    rw [ewt]
    refine v_istore F (pc := 226) (lo' := [some (.ref b), some (.ref x), some (.ref a2), some (.ref a3), some (.ref a4), some (.ref a5), some (.int (iI (σ 18 0))), some (.int (iI (1))), some (.int (iI (tn))), some (.int (iI (t))), some (.int (iI (xx))), some (.int (iI (y))), some (.int (iI (0))), some (.int (iI (sz))), some (.int (iI (pw))), some (.int (iI (wt))), none, none, none, none, none, none, none, none]) dL_law_226 (Nat.le_of_ble_eq_true rfl) rfl ?_
    refine v_iload F (pc := 228) dL_law_228 rfl ?_
    refine v_bipush F (pc := 230) dL_law_230 (by decide) ?_
    refine v_ishrM F (pc := 232) (a := y) (b := 17) dL_law_232 ?_
    refine v_sipush F (pc := 233) dL_law_233 (by decide) ?_
    refine v_iandM F (pc := 236) (a := shI y 17) (b := 255) dL_law_236 ?_
    refine v_iconst F (pc := 237) dL_law_237 ?_
    refine v_irem F (pc := 238) (a := maI (shI y 17) 255) (b := 3) dL_law_238 (by omega) (by omega) ?_
    obtain ⟨cd, ecd⟩ : ∃ z, (maI (shI y 17) 255) % 3 = z := ⟨_, rfl⟩
    rw [ecd]
    have hkd : cKD sz pw wt cd := by omega
    refine v_istore F (pc := 239) (lo' := [some (.ref b), some (.ref x), some (.ref a2), some (.ref a3), some (.ref a4), some (.ref a5), some (.int (iI (σ 18 0))), some (.int (iI (1))), some (.int (iI (tn))), some (.int (iI (t))), some (.int (iI (xx))), some (.int (iI (y))), some (.int (iI (0))), some (.int (iI (sz))), some (.int (iI (pw))), some (.int (iI (wt))), some (.int (iI (cd))), none, none, none, none, none, none, none]) dL_law_239 (Nat.le_of_ble_eq_true rfl) rfl ?_
    refine v_iload F (pc := 241) dL_law_241 rfl ?_
    refine v_if_ne F (pc := 243) (a := σ 18 0) 250 dL_law_243 (by decide) (by omega) (fun c_7 => ?_) (fun c_7 => ?_)
    · refine v_iload F (pc := 250) dL_law_250 rfl ?_
      refine v_ldcI F (pc := 252) lk_98 dL_law_252 ?_
      refine v_iandM F (pc := 254) (a := y) (b := 65535) dL_law_254 ?_
      refine v_iload F (pc := 255) dL_law_255 rfl ?_
      refine v_irem F (pc := 257) (a := maI y 65535) (b := σ 18 0) dL_law_257 (by omega) (by omega) ?_
      obtain ⟨mm, emm⟩ : ∃ z, (maI y 65535) % (σ 18 0) = z := ⟨_, rfl⟩
      rw [emm]
      have hm0 : 0 ≤ mm := by rw [← emm]; exact Int.emod_nonneg _ (by omega)
      have hm1 : mm < σ 18 0 := by rw [← emm]; exact Int.emod_lt_of_pos _ (by omega)
      refine v_istore F (pc := 258) (lo' := [some (.ref b), some (.ref x), some (.ref a2), some (.ref a3), some (.ref a4), some (.ref a5), some (.int (iI (σ 18 0))), some (.int (iI (1))), some (.int (iI (tn))), some (.int (iI (t))), some (.int (iI (xx))), some (.int (iI (y))), some (.int (iI (0))), some (.int (iI (sz))), some (.int (iI (pw))), some (.int (iI (wt))), some (.int (iI (cd))), some (.int (iI (mm))), none, none, none, none, none, none]) dL_law_258 (Nat.le_of_ble_eq_true rfl) rfl ?_
      refine v_iload F (pc := 260) dL_law_260 rfl ?_
      refine v_if_lt F (pc := 262) (a := mm) 278 dL_law_262 (by decide) (by omega) (fun c_8 => ?_) (fun c_8 => ?_)
      · exfalso; omega
      · refine v_aload_n F (pc := 265) dL_law_265 rfl ?_
        refine v_iload F (pc := 266) dL_law_266 rfl ?_
        refine v_callW F (pc := 268) (n := 2) (As := [.ref x, .int (iI (mm))]) (rest := []) lm_rack lx_L lc_rack ⟨by decide, by decide, by decide +kernel⟩ ls_rack (KH_rack l g X0 mm (by omega)) dL_law_268 rfl rfl (Nat.le_of_ble_eq_true rfl) (Nat.le_of_ble_eq_true rfl) (Nat.le_of_ble_eq_true rfl) (show cells + 1 ≤ 674477 by omega) (show slots + 6 ≤ 7078194 by omega) (fun v_ h5 hp_ => ?_)
        obtain ⟨rfl, X5⟩ := hp_
        obtain ⟨fs5, o5⟩ := X5.obj
        by_cases hfd : m_find σ mm = -1
        · rw [show (if fnd_c σ mm = 0 then σ 15 (m_find σ mm) else (-1 : Int)) = -1 from if_neg (show ¬ fnd_c σ mm = 0 from by unfold fnd_c; rw [if_pos hfd]; decide)]
          refine v_if_lt F (pc := 271) (a := -1) 278 dL_law_271 (by decide) (by omega) (fun c_9 => ?_) (fun c_9 => ?_)
          · refine v_iconst F (pc := 278) dL_law_278 ?_
            refine v_istore F (pc := 279) (lo' := [some (.ref b), some (.ref x), some (.ref a2), some (.ref a3), some (.ref a4), some (.ref a5), some (.int (iI (σ 18 0))), some (.int (iI (1))), some (.int (iI (tn))), some (.int (iI (t))), some (.int (iI (xx))), some (.int (iI (y))), some (.int (iI (0))), some (.int (iI (sz))), some (.int (iI (pw))), some (.int (iI (wt))), some (.int (iI (cd))), some (.int (iI (mm))), some (.int (iI (0))), none, none, none, none, none]) dL_law_279 (Nat.le_of_ble_eq_true rfl) rfl ?_
            refine v_aload_n F (pc := 281) dL_law_281 rfl ?_
            refine v_callV F (pc := 282) (As := []) (rest := []) ci_L_41 ct_X4_machines cs_X4_machines (N_machines l g X5) dL_law_282 (k0 := 7) rfl rfl o5 rfl rfl (Nat.le_of_ble_eq_true rfl) (Nat.le_of_ble_eq_true rfl) (Nat.le_of_ble_eq_true rfl) (show cells + 1 + 0 ≤ 674477 by omega) (show slots + 6 + 0 ≤ 7078194 by omega) (fun v_ h6 hp_ => ?_) (fun _ _ z => z.elim)
            obtain ⟨rfl, X6⟩ := hp_
            obtain ⟨fs6, o6⟩ := X6.obj
            refine v_istore F (pc := 285) (lo' := [some (.ref b), some (.ref x), some (.ref a2), some (.ref a3), some (.ref a4), some (.ref a5), some (.int (iI (σ 18 0))), some (.int (iI (1))), some (.int (iI (tn))), some (.int (iI (t))), some (.int (iI (xx))), some (.int (iI (y))), some (.int (iI (0))), some (.int (iI (sz))), some (.int (iI (pw))), some (.int (iI (wt))), some (.int (iI (cd))), some (.int (iI (mm))), some (.int (iI (0))), some (.int (iI (σ 17 0))), none, none, none, none]) dL_law_285 (Nat.le_of_ble_eq_true rfl) rfl ?_
            exact V.fg (D_all F X6 hAR0 hkd (by omega) hy (show cells + 1 + 130 ≤ 674477 by omega) (show slots + 6 + 18100 ≤ 7078194 by omega) (d := 0) (mm := mm) (th := false) (by omega) (fun z => by cases z) (fun h2 σ2 k2 X2 hAR2 g0 g1 => D_end F X2 hAR2 hkd (by omega) (show cells + 1 + 130 + 2560 ≤ 674477 by omega) (show slots + 6 + 18100 + 15500 ≤ 7078194 by omega) (fun h3 σ3 X3 hAR3 g2 g3 => v_wid (show cells + 1 + 130 + 2560 ≤ cells + 2700 by omega) (show slots + 6 + 18100 + 15500 ≤ slots + 33700 by omega) (kk h3 σ3 k2 X3 hAR3 g2 (by omega))))) ⟨rfl, ⟨rfl, ⟨rfl, ⟨rfl, ⟨rfl, ⟨rfl, ⟨rfl, ⟨rfl, ⟨rfl, ⟨rfl, ⟨rfl, ⟨rfl, ⟨rfl, ⟨rfl, ⟨rfl, ⟨rfl, ⟨rfl, ⟨rfl, ⟨rfl, trivial⟩⟩⟩⟩⟩⟩⟩⟩⟩⟩⟩⟩⟩⟩⟩⟩⟩⟩⟩
          · exact absurd c_9 (by decide)
        · rw [show (if fnd_c σ mm = 0 then σ 15 (m_find σ mm) else (-1 : Int)) = σ 15 (m_find σ mm) from if_pos (if_neg hfd)]
          have hfv := find_v hIV.1 hfd
          have hfm := hIV.mach hfv.1 hfv.2.1
          refine v_if_lt F (pc := 271) (a := σ 15 (m_find σ mm)) 278 dL_law_271 (by decide) (by omega) (fun c_10 => ?_) (fun c_10 => ?_)
          · exfalso; omega
          · refine v_iconst F (pc := 274) dL_law_274 ?_
            refine v_goto F (pc := 275) 279 dL_law_275 (by decide) ?_
            refine v_istore F (pc := 279) (lo' := [some (.ref b), some (.ref x), some (.ref a2), some (.ref a3), some (.ref a4), some (.ref a5), some (.int (iI (σ 18 0))), some (.int (iI (1))), some (.int (iI (tn))), some (.int (iI (t))), some (.int (iI (xx))), some (.int (iI (y))), some (.int (iI (0))), some (.int (iI (sz))), some (.int (iI (pw))), some (.int (iI (wt))), some (.int (iI (cd))), some (.int (iI (mm))), some (.int (iI (1))), none, none, none, none, none]) dL_law_279 (Nat.le_of_ble_eq_true rfl) rfl ?_
            refine v_aload_n F (pc := 281) dL_law_281 rfl ?_
            refine v_callV F (pc := 282) (As := []) (rest := []) ci_L_41 ct_X4_machines cs_X4_machines (N_machines l g X5) dL_law_282 (k0 := 7) rfl rfl o5 rfl rfl (Nat.le_of_ble_eq_true rfl) (Nat.le_of_ble_eq_true rfl) (Nat.le_of_ble_eq_true rfl) (show cells + 1 + 0 ≤ 674477 by omega) (show slots + 6 + 0 ≤ 7078194 by omega) (fun v_ h7 hp_ => ?_) (fun _ _ z => z.elim)
            obtain ⟨rfl, X7⟩ := hp_
            obtain ⟨fs7, o7⟩ := X7.obj
            refine v_istore F (pc := 285) (lo' := [some (.ref b), some (.ref x), some (.ref a2), some (.ref a3), some (.ref a4), some (.ref a5), some (.int (iI (σ 18 0))), some (.int (iI (1))), some (.int (iI (tn))), some (.int (iI (t))), some (.int (iI (xx))), some (.int (iI (y))), some (.int (iI (0))), some (.int (iI (sz))), some (.int (iI (pw))), some (.int (iI (wt))), some (.int (iI (cd))), some (.int (iI (mm))), some (.int (iI (1))), some (.int (iI (σ 17 0))), none, none, none, none]) dL_law_285 (Nat.le_of_ble_eq_true rfl) rfl ?_
            exact V.fg (D_all F X7 hAR0 hkd (by omega) hy (show cells + 1 + 130 ≤ 674477 by omega) (show slots + 6 + 18100 ≤ 7078194 by omega) (d := 0) (mm := mm) (th := true) (by omega) (fun _ => ⟨m_find σ mm, rfl, hfv.1, by omega⟩) (fun h2 σ2 k2 X2 hAR2 g0 g1 => D_end F X2 hAR2 hkd (by omega) (show cells + 1 + 130 + 2560 ≤ 674477 by omega) (show slots + 6 + 18100 + 15500 ≤ 7078194 by omega) (fun h3 σ3 X3 hAR3 g2 g3 => v_wid (show cells + 1 + 130 + 2560 ≤ cells + 2700 by omega) (show slots + 6 + 18100 + 15500 ≤ slots + 33700 by omega) (kk h3 σ3 k2 X3 hAR3 g2 (by omega))))) ⟨rfl, ⟨rfl, ⟨rfl, ⟨rfl, ⟨rfl, ⟨rfl, ⟨rfl, ⟨rfl, ⟨rfl, ⟨rfl, ⟨rfl, ⟨rfl, ⟨rfl, ⟨rfl, ⟨rfl, ⟨rfl, ⟨rfl, ⟨rfl, ⟨rfl, trivial⟩⟩⟩⟩⟩⟩⟩⟩⟩⟩⟩⟩⟩⟩⟩⟩⟩⟩⟩
    · refine v_iconst F (pc := 246) dL_law_246 ?_
      refine v_goto F (pc := 247) 258 dL_law_247 (by decide) ?_
      refine v_istore F (pc := 258) (lo' := [some (.ref b), some (.ref x), some (.ref a2), some (.ref a3), some (.ref a4), some (.ref a5), some (.int (iI (σ 18 0))), some (.int (iI (1))), some (.int (iI (tn))), some (.int (iI (t))), some (.int (iI (xx))), some (.int (iI (y))), some (.int (iI (0))), some (.int (iI (sz))), some (.int (iI (pw))), some (.int (iI (wt))), some (.int (iI (cd))), some (.int (iI (-1))), none, none, none, none, none, none]) dL_law_258 (Nat.le_of_ble_eq_true rfl) rfl ?_
      refine v_iload F (pc := 260) dL_law_260 rfl ?_
      refine v_if_lt F (pc := 262) (a := -1) 278 dL_law_262 (by decide) (by omega) (fun c_11 => ?_) (fun c_11 => ?_)
      · refine v_iconst F (pc := 278) dL_law_278 ?_
        refine v_istore F (pc := 279) (lo' := [some (.ref b), some (.ref x), some (.ref a2), some (.ref a3), some (.ref a4), some (.ref a5), some (.int (iI (σ 18 0))), some (.int (iI (1))), some (.int (iI (tn))), some (.int (iI (t))), some (.int (iI (xx))), some (.int (iI (y))), some (.int (iI (0))), some (.int (iI (sz))), some (.int (iI (pw))), some (.int (iI (wt))), some (.int (iI (cd))), some (.int (iI (-1))), some (.int (iI (0))), none, none, none, none, none]) dL_law_279 (Nat.le_of_ble_eq_true rfl) rfl ?_
        refine v_aload_n F (pc := 281) dL_law_281 rfl ?_
        refine v_callV F (pc := 282) (As := []) (rest := []) ci_L_41 ct_X4_machines cs_X4_machines (N_machines l g X0) dL_law_282 (k0 := 7) rfl rfl o0 rfl rfl (Nat.le_of_ble_eq_true rfl) (Nat.le_of_ble_eq_true rfl) (Nat.le_of_ble_eq_true rfl) (show cells + 0 ≤ 674477 by omega) (show slots + 0 ≤ 7078194 by omega) (fun v_ h8 hp_ => ?_) (fun _ _ z => z.elim)
        obtain ⟨rfl, X8⟩ := hp_
        obtain ⟨fs8, o8⟩ := X8.obj
        refine v_istore F (pc := 285) (lo' := [some (.ref b), some (.ref x), some (.ref a2), some (.ref a3), some (.ref a4), some (.ref a5), some (.int (iI (σ 18 0))), some (.int (iI (1))), some (.int (iI (tn))), some (.int (iI (t))), some (.int (iI (xx))), some (.int (iI (y))), some (.int (iI (0))), some (.int (iI (sz))), some (.int (iI (pw))), some (.int (iI (wt))), some (.int (iI (cd))), some (.int (iI (-1))), some (.int (iI (0))), some (.int (iI (σ 17 0))), none, none, none, none]) dL_law_285 (Nat.le_of_ble_eq_true rfl) rfl ?_
        exact V.fg (D_all F X8 hAR0 hkd (by omega) hy (show cells + 130 ≤ 674477 by omega) (show slots + 18100 ≤ 7078194 by omega) (d := 0) (mm := -1) (th := false) (by omega) (fun z => by cases z) (fun h2 σ2 k2 X2 hAR2 g0 g1 => D_end F X2 hAR2 hkd (by omega) (show cells + 130 + 2560 ≤ 674477 by omega) (show slots + 18100 + 15500 ≤ 7078194 by omega) (fun h3 σ3 X3 hAR3 g2 g3 => v_wid (show cells + 130 + 2560 ≤ cells + 2700 by omega) (show slots + 18100 + 15500 ≤ slots + 33700 by omega) (kk h3 σ3 k2 X3 hAR3 g2 (by omega))))) ⟨rfl, ⟨rfl, ⟨rfl, ⟨rfl, ⟨rfl, ⟨rfl, ⟨rfl, ⟨rfl, ⟨rfl, ⟨rfl, ⟨rfl, ⟨rfl, ⟨rfl, ⟨rfl, ⟨rfl, ⟨rfl, ⟨rfl, ⟨rfl, ⟨rfl, trivial⟩⟩⟩⟩⟩⟩⟩⟩⟩⟩⟩⟩⟩⟩⟩⟩⟩⟩⟩
      · exact absurd c_11 (by decide)
-- the law: its loop
set_option maxRecDepth 100000 in
set_option maxHeartbeats 8000000 in
theorem law_loop {pX : Program} {l : Launch} {eX : Env} {sS : State} {mX : MethodId} {below : List Frame} {meth : Method} {cX : Code} {g : gT} {AX : Nat → Prop} {b L : Nat} (F : Fx pX l sS mX #[Value.ref b] meth cX cL_law 24 ret RL g AX) (hAs : ∀ q, AX q → sS.heap.size ≤ q) {xs : Nat → Int32} (hXs : va_X b L xs sS sS.heap) (hbl : b < sS.heap.size) (hbA : ¬ AX b) (hL : L ≤ 260) {x a2 a3 a4 a5 : Nat} {tn : Int} (htn : 0 ≤ tn ∧ tn ≤ 180) : ∀ (N : Nat) (t : Int) (h0 : fH) (σ : sT) (k0 : fH) (cl sl : Nat), SL g x h0 σ k0 → AR g k0 a2 a3 a4 a5 σ → 0 ≤ t → t ≤ tn → 0 ≤ σ 18 0 → σ 18 0 ≤ 2 * t → cl + 2700 * N ≤ 674477 → sl + 33700 * N ≤ 7078194 → (tn - t).toNat < N → V pX l eX room_1 sS mX #[Value.ref b] below meth cX (lw_Z below #[Value.ref b] sS) 24 g AX (h0) (cl) (sl) 112 [some (.ref b), some (.ref x), some (.ref a2), some (.ref a3), some (.ref a4), some (.ref a5), some (.int (iI (σ 18 0))), some (.int (iI (1))), some (.int (iI (tn))), some (.int (iI (t))), none, none, none, none, none, none, none, none, none, none, none, none, none, none] [] := by
  intro N
  induction N with
  | zero => intro t h0 σ k0 cl sl _ _ _ _ _ _ _ _ hz; exact absurd hz (Nat.not_lt_zero _)
  | succ N ih =>
    intro t h0 σ k0 cl sl X0 hAR ht0 ht1 g0 g1 hc hs hz
    have back : t < tn → ∀ (h2 : fH) (σ2 : sT) (k2 : fH), SL g x h2 σ2 k2 → AR g k2 a2 a3 a4 a5 σ2 → 0 ≤ σ2 18 0 → σ2 18 0 ≤ σ 18 0 + 2 → V pX l eX room_1 sS mX #[Value.ref b] below meth cX (lw_Z below #[Value.ref b] sS) 24 g AX h2 (cl + 2700) (sl + 33700) 112 [some (.ref b), some (.ref x), some (.ref a2), some (.ref a3), some (.ref a4), some (.ref a5), some (.int (iI (σ2 18 0))), some (.int (iI (1))), some (.int (iI (tn))), some (.int (iI (t + 1))), none, none, none, none, none, none, none, none, none, none, none, none, none, none] [] := fun z h2 σ2 k2 X2 hAR2 q0 q1 => ih (t + 1) h2 σ2 k2 (cl + 2700) (sl + 33700) X2 hAR2 (by omega) (by omega) q0 (by omega) (by omega) (by omega) (by omega)
    refine v_iload F (pc := 112) dL_law_112 rfl ?_
    refine v_iload F (pc := 114) dL_law_114 rfl ?_
    refine v_icmp_ge F (pc := 116) (a := t) (b := tn) 1319 dL_law_116 (by decide) (by omega) (by omega) (fun c_1 => ?_) (fun c_1 => ?_)
    · refine v_iload F (pc := 1319) dL_law_1319 rfl ?_
      exact v_lawret F hAs dL_law_1321 (by omega) (by omega)
    · refine v_iload F (pc := 119) dL_law_119 rfl ?_
      refine v_if_eq F (pc := 121) (a := 1) 1319 dL_law_121 (by decide) (by omega) (fun c_2 => ?_) (fun c_2 => ?_)
      · exact absurd c_2 (by decide)
      · refine v_iload F (pc := 124) dL_law_124 rfl ?_
        refine v_aload_n F (pc := 126) dL_law_126 rfl ?_
        refine v_slen F (pc := 127) hXs hbl hbA dL_law_127 ?_
        refine v_icmp_ge F (pc := 128) (a := t) (b := (L : Int)) 138 dL_law_128 (by decide) (by omega) (by omega) (fun c_3 => ?_) (fun c_3 => ?_)
        · refine v_ldcI F (pc := 138) lk_97 dL_law_138 ?_
          refine v_iload F (pc := 140) dL_law_140 rfl ?_
          refine v_imul F (pc := 142) (a := 570001) (b := t) dL_law_142 ?_
          refine v_iload F (pc := 143) dL_law_143 rfl ?_
          refine v_imul F (pc := 145) (a := 570001 * t) (b := t) dL_law_145 ?_
          refine v_sipush F (pc := 146) dL_law_146 (by decide) ?_
          refine v_iload F (pc := 149) dL_law_149 rfl ?_
          refine v_imul F (pc := 151) (a := 19001) (b := t) dL_law_151 ?_
          refine v_iadd F (pc := 152) (a := (570001 * t) * t) (b := 19001 * t) dL_law_152 ?_
          refine v_bipush F (pc := 153) dL_law_153 (by decide) ?_
          refine v_iadd F (pc := 155) (a := ((570001 * t) * t) + (19001 * t)) (b := 12) dL_law_155 ?_
          refine v_norm F (fun z ez hz => ?_)
          exact D_turn F X0 hAR (by omega) hz ⟨ht0, by omega⟩ (by omega) (by omega) (back (by omega))
        · refine v_aload_n F (pc := 131) dL_law_131 rfl ?_
          refine v_iload F (pc := 132) dL_law_132 rfl ?_
          refine v_sld F (pc := 134) hXs hbl hbA (z := t) (by omega) hL dL_law_134 ?_
          refine v_goto F (pc := 135) 156 dL_law_135 (by decide) ?_
          exact D_turn F X0 hAR (by omega) (sX_rng xs t) ⟨ht0, by omega⟩ (by omega) (by omega) (back (by omega))
