/-! ===== the law: one call of each kind ===== -/
set_option maxRecDepth 100000 in
theorem LC_addRack {p : Program} {l : Launch} {e : Env} {s : State} {m : MethodId} {args : Array Value} {below : List Frame} {meth : Method} {c : Code} {Q : State → Prop} {g : gT} {A : Nat → Prop} (F : Fx p l s m args meth c cL_law 7 ret RL g A) (hN : NC s) {b L : Nat} {xs : Nat → Int32} (hXs : va_X b L xs s s.heap) (hbl : b < s.heap.size) (hbA : ¬ A b) (hL : L ≤ 2560) {x o : Nat} {P : Nat → Nat} {hC : fH} {v0 : Int64} {σ : sT} {i : Int} (hi : 0 ≤ i ∧ i + 5 ≤ L) (hP : mok P) (hX : SX g x hC σ) (ho : hC o = none) (hd : ∀ a, mheap g P σ a ≠ none → f_or hC (fO g o v0) a = none) (hgv : σ 18 0 < 1000000) {cells slots : Nat} (hc : cells + 60 ≤ 601024) (hs : slots + 9000 ≤ 7293034) (kk : ∀ (h2 : fH) (v2 : Int64), SX g x h2 (aR_s σ (sX xs (i + 1)) (sX xs (i + 2)) (sX xs (i + 3)) (sX xs (i + 4))) → h2 o = none → (∀ a, mheap g P (aR_s σ (sX xs (i + 1)) (sX xs (i + 2)) (sX xs (i + 3)) (sX xs (i + 4))) a ≠ none → f_or h2 (fO g o v2) a = none) → V p l e room_1 s m args below meth c Q 7 g A (f_or (f_or h2 (fO g o v2)) (mheap g P (aR_s σ (sX xs (i + 1)) (sX xs (i + 2)) (sX xs (i + 3)) (sX xs (i + 4))))) (cells + 6) (slots + 178) 1621 [some (.ref b), some (.ref x), some (.ref (P 0)), some (.ref o), some (.int (iI i)), none, none] []) : V p l e room_1 s m args below meth c Q 7 g A (f_or (f_or hC (fO g o v0)) (mheap g P σ)) cells slots 148 [some (.ref b), some (.ref x), some (.ref (P 0)), some (.ref o), some (.int (iI i)), none, none] [] := by
  have hB := SX.mb hX
  have hdO : ∀ a, fO g o v0 a ≠ none → hC a = none := fun a ha => by rw [fO_n ha]; exact ho
  refine v_aload_n F (pc := 148) dL_law_148 rfl ?_
  refine v_aload_n F (pc := 149) dL_law_149 rfl ?_
  refine v_iload F (pc := 150) dL_law_150 rfl ?_
  refine v_iconst F (pc := 152) dL_law_152 ?_
  refine v_iadd F (pc := 153) (a := i) (b := 1) dL_law_153 ?_
  refine v_sld F (pc := 154) hXs hbl hbA (z := i + 1) (by omega) hL dL_law_154 ?_
  refine v_aload_n F (pc := 155) dL_law_155 rfl ?_
  refine v_iload F (pc := 156) dL_law_156 rfl ?_
  refine v_iconst F (pc := 158) dL_law_158 ?_
  refine v_iadd F (pc := 159) (a := i) (b := 2) dL_law_159 ?_
  refine v_sld F (pc := 160) hXs hbl hbA (z := i + 2) (by omega) hL dL_law_160 ?_
  refine v_aload_n F (pc := 161) dL_law_161 rfl ?_
  refine v_iload F (pc := 162) dL_law_162 rfl ?_
  refine v_iconst F (pc := 164) dL_law_164 ?_
  refine v_iadd F (pc := 165) (a := i) (b := 3) dL_law_165 ?_
  refine v_sld F (pc := 166) hXs hbl hbA (z := i + 3) (by omega) hL dL_law_166 ?_
  refine v_aload_n F (pc := 167) dL_law_167 rfl ?_
  refine v_iload F (pc := 168) dL_law_168 rfl ?_
  refine v_iconst F (pc := 170) dL_law_170 ?_
  refine v_iadd F (pc := 171) (a := i) (b := 4) dL_law_171 ?_
  refine v_sld F (pc := 172) hXs hbl hbA (z := i + 4) (by omega) hL dL_law_172 ?_
  refine v_aload_n F (pc := 173) dL_law_173 rfl ?_
  refine v_callW F (pc := 174) (n := 6) (As := [.ref x, .int (iI (sX xs (i + 1))), .int (iI (sX xs (i + 2))), .int (iI (sX xs (i + 3))), .int (iI (sX xs (i + 4))), .ref o]) (rest := []) lm_addRack lx_L lc_addRack ⟨by decide, by decide, by decide +kernel⟩ ls_addRack (CMW.frame (k := mheap g P σ) (KL_addRack l g hX ho v0 (sX xs (i + 1)) (sX xs (i + 2)) (sX xs (i + 3)) (sX xs (i + 4)) (sX_rng xs (i + 1)) (sX_rng xs (i + 2)) (sX_rng xs (i + 3)) (sX_rng xs (i + 4))) hd) hN dL_law_174 rfl rfl (Nat.le_of_ble_eq_true rfl) (Nat.le_of_ble_eq_true rfl) (Nat.le_of_ble_eq_true rfl) (by show cells + 6 ≤ 601024; omega) (by show slots + 178 ≤ 7293034; omega) (fun v1 h1 hp => ?_)
  obtain ⟨h9, ⟨h2, v2, rfl, rfl, ho2, hX2, hv2⟩, rfl, hd2⟩ := hp
  refine v_istore F (pc := 177) (lo' := [some (.ref b), some (.ref x), some (.ref (P 0)), some (.ref o), some (.int (iI i)), some (.int (iI (aR_c σ (sX xs (i + 1)) (sX xs (i + 2)) (sX xs (i + 3)) (sX xs (i + 4))))), none]) dL_law_177 (Nat.le_of_ble_eq_true rfl) rfl ?_
  rw [f_or_comm hd2]
  have hd3 := f_or_apart hd2
  refine v_aload_n F (pc := 179) dL_law_179 rfl ?_
  refine v_aload_n F (pc := 180) dL_law_180 rfl ?_
  refine v_iload F (pc := 181) dL_law_181 rfl ?_
  refine v_iconst F (pc := 183) dL_law_183 ?_
  refine v_iadd F (pc := 184) (a := i) (b := 1) dL_law_184 ?_
  refine v_sld F (pc := 185) hXs hbl hbA (z := i + 1) (by omega) hL dL_law_185 ?_
  refine v_aload_n F (pc := 186) dL_law_186 rfl ?_
  refine v_iload F (pc := 187) dL_law_187 rfl ?_
  refine v_iconst F (pc := 189) dL_law_189 ?_
  refine v_iadd F (pc := 190) (a := i) (b := 2) dL_law_190 ?_
  refine v_sld F (pc := 191) hXs hbl hbA (z := i + 2) (by omega) hL dL_law_191 ?_
  refine v_aload_n F (pc := 192) dL_law_192 rfl ?_
  refine v_iload F (pc := 193) dL_law_193 rfl ?_
  refine v_iconst F (pc := 195) dL_law_195 ?_
  refine v_iadd F (pc := 196) (a := i) (b := 3) dL_law_196 ?_
  refine v_sld F (pc := 197) hXs hbl hbA (z := i + 3) (by omega) hL dL_law_197 ?_
  refine v_aload_n F (pc := 198) dL_law_198 rfl ?_
  refine v_iload F (pc := 199) dL_law_199 rfl ?_
  refine v_iconst F (pc := 201) dL_law_201 ?_
  refine v_iadd F (pc := 202) (a := i) (b := 4) dL_law_202 ?_
  refine v_sld F (pc := 203) hXs hbl hbA (z := i + 4) (by omega) hL dL_law_203 ?_
  refine v_callV F (pc := 204) (As := [.int (iI (sX xs (i + 1))), .int (iI (sX xs (i + 2))), .int (iI (sX xs (i + 3))), .int (iI (sX xs (i + 4)))]) (rest := []) ci_L_92 ct_X5_addRack cs_X5_addRack (CM.frame (k := f_or h2 (fO g o v2)) (k_X5_addRack l g hP hB (sX xs (i + 1)) (sX xs (i + 2)) (sX xs (i + 3)) (sX xs (i + 4)) (sX_rng xs (i + 1)) (sX_rng xs (i + 2)) (sX_rng xs (i + 3)) (sX_rng xs (i + 4))) hd3) dL_law_204 (k0 := 8) rfl rfl (f_or_l (mh_0 hP)) rfl rfl (Nat.le_of_ble_eq_true rfl) (Nat.le_of_ble_eq_true rfl) (Nat.le_of_ble_eq_true rfl) (by show cells + 6 ≤ 601024; omega) (by show slots + 178 ≤ 7293034; omega) (fun v1 h1 hp => ?_) (fun E h1 hp => by obtain ⟨_, z, _⟩ := hp; exact z.elim)
  obtain ⟨h9, ⟨rfl, rfl⟩, rfl, hd4⟩ := hp
  have hB2 := SX.mb hX2
  refine v_istore F (pc := 207) (lo' := [some (.ref b), some (.ref x), some (.ref (P 0)), some (.ref o), some (.int (iI i)), some (.int (iI (aR_c σ (sX xs (i + 1)) (sX xs (i + 2)) (sX xs (i + 3)) (sX xs (i + 4))))), some (.int (iI (aR_a σ (sX xs (i + 1)) (sX xs (i + 2)) (sX xs (i + 3)) (sX xs (i + 4)))))]) dL_law_207 (Nat.le_of_ble_eq_true rfl) rfl ?_
  refine v_aload_n F (pc := 209) dL_law_209 rfl ?_
  refine v_callV F (pc := 210) (As := []) (rest := []) ci_L_93 ct_X5_thrown cs_X5_thrown (CM.frame (k := f_or h2 (fO g o v2)) (k_X5_thrown l g hP hB2) hd4) dL_law_210 (k0 := 8) rfl rfl (f_or_l (mh_0 hP)) rfl rfl (Nat.le_of_ble_eq_true rfl) (Nat.le_of_ble_eq_true rfl) (Nat.le_of_ble_eq_true rfl) (by show cells + 6 ≤ 601024; omega) (by show slots + 178 ≤ 7293034; omega) (fun v1 h1 hp => ?_) (fun E h1 hp => by obtain ⟨_, z, _⟩ := hp; exact z.elim)
  obtain ⟨h9, ⟨rfl, rfl⟩, rfl, hd5⟩ := hp
  have h0c : (aR_s σ (sX xs (i + 1)) (sX xs (i + 2)) (sX xs (i + 3)) (sX xs (i + 4))) 0 0 = aR_c σ (sX xs (i + 1)) (sX xs (i + 2)) (sX xs (i + 3)) (sX xs (i + 4)) := t0_addRack σ (sX xs (i + 1)) (sX xs (i + 2)) (sX xs (i + 3)) (sX xs (i + 4))
  rw [h0c]
  have hcr : 0 ≤ aR_c σ (sX xs (i + 1)) (sX xs (i + 2)) (sX xs (i + 3)) (sX xs (i + 4)) ∧ aR_c σ (sX xs (i + 1)) (sX xs (i + 2)) (sX xs (i + 3)) (sX xs (i + 4)) ≤ 3 := by rw [← h0c]; exact hB2 0 0 (by decide) (by decide)
  refine v_iload F (pc := 213) dL_law_213 rfl ?_
  refine v_eqS F (pc := 215) 220 dL_law_215 (by decide) ?_
  have fin : V p l e room_1 s m args below meth c Q 7 g A (f_or (mheap g P (aR_s σ (sX xs (i + 1)) (sX xs (i + 2)) (sX xs (i + 3)) (sX xs (i + 4)))) (f_or h2 (fO g o v2))) (cells + 6) (slots + 178) 1621 [some (.ref b), some (.ref x), some (.ref (P 0)), some (.ref o), some (.int (iI i)), some (.int (iI (aR_c σ (sX xs (i + 1)) (sX xs (i + 2)) (sX xs (i + 3)) (sX xs (i + 4))))), some (.int (iI (aR_a σ (sX xs (i + 1)) (sX xs (i + 2)) (sX xs (i + 3)) (sX xs (i + 4)))))] [] := by rw [f_or_comm hd5]; exact V.fg (kk h2 v2 hX2 ho2 (f_or_apart hd5)) ⟨rfl, rfl, rfl, rfl, rfl, trivial⟩
  refine v_iload F (pc := 220) dL_law_220 rfl ?_
  refine v_if_ne F (pc := 222) (a := aR_c σ (sX xs (i + 1)) (sX xs (i + 2)) (sX xs (i + 3)) (sX xs (i + 4))) 237 dL_law_222 (by decide) (by omega) (fun c_1 => ?_) (fun c_1 => ?_)
  · exact v_goto F (pc := 237) 1621 dL_law_237 (by decide) fin
  · have hv := hv2 c_1
    refine v_aload_n F (pc := 225) dL_law_225 rfl ?_
    refine v_iconst F (pc := 226) dL_law_226 ?_
    refine v_lald F (pc := 227) (v := v2) (((f_or_r (hd5 o (by rw [f_or_r ho2, fO_s]; exact fun z => by cases z))).trans (f_or_r ho2)).trans fO_s) dL_law_227 ?_
    refine v_iload F (pc := 228) dL_law_228 rfl ?_
    refine v_i2l9 F (pc := 230) dL_law_230 ?_
    refine v_lcmpE F (pc := 231) hv dL_law_231 ?_
    exact v_if_eq F (pc := 232) (a := 0) 237 dL_law_232 (by decide) (by decide) (fun _ => v_goto F (pc := 237) 1621 dL_law_237 (by decide) fin) (fun z => absurd rfl z)
set_option maxRecDepth 100000 in
theorem LC_setRow {p : Program} {l : Launch} {e : Env} {s : State} {m : MethodId} {args : Array Value} {below : List Frame} {meth : Method} {c : Code} {Q : State → Prop} {g : gT} {A : Nat → Prop} (F : Fx p l s m args meth c cL_law 7 ret RL g A) (hN : NC s) {b L : Nat} {xs : Nat → Int32} (hXs : va_X b L xs s s.heap) (hbl : b < s.heap.size) (hbA : ¬ A b) (hL : L ≤ 2560) {x o : Nat} {P : Nat → Nat} {hC : fH} {v0 : Int64} {σ : sT} {i : Int} (hi : 0 ≤ i ∧ i + 5 ≤ L) (hP : mok P) (hX : SX g x hC σ) (ho : hC o = none) (hd : ∀ a, mheap g P σ a ≠ none → f_or hC (fO g o v0) a = none) (hgv : σ 18 0 < 1000000) {cells slots : Nat} (hc : cells + 60 ≤ 601024) (hs : slots + 9000 ≤ 7293034) (kk : ∀ (h2 : fH) (v2 : Int64), SX g x h2 (sR_s σ (sX xs (i + 1)) (sX xs (i + 2)) (sX xs (i + 3))) → h2 o = none → (∀ a, mheap g P (sR_s σ (sX xs (i + 1)) (sX xs (i + 2)) (sX xs (i + 3))) a ≠ none → f_or h2 (fO g o v2) a = none) → V p l e room_1 s m args below meth c Q 7 g A (f_or (f_or h2 (fO g o v2)) (mheap g P (sR_s σ (sX xs (i + 1)) (sX xs (i + 2)) (sX xs (i + 3))))) (cells + 4) (slots + 24) 1621 [some (.ref b), some (.ref x), some (.ref (P 0)), some (.ref o), some (.int (iI i)), none, none] []) : V p l e room_1 s m args below meth c Q 7 g A (f_or (f_or hC (fO g o v0)) (mheap g P σ)) cells slots 240 [some (.ref b), some (.ref x), some (.ref (P 0)), some (.ref o), some (.int (iI i)), none, none] [] := by
  have hB := SX.mb hX
  have hdO : ∀ a, fO g o v0 a ≠ none → hC a = none := fun a ha => by rw [fO_n ha]; exact ho
  refine v_aload_n F (pc := 240) dL_law_240 rfl ?_
  refine v_aload_n F (pc := 241) dL_law_241 rfl ?_
  refine v_iload F (pc := 242) dL_law_242 rfl ?_
  refine v_iconst F (pc := 244) dL_law_244 ?_
  refine v_iadd F (pc := 245) (a := i) (b := 1) dL_law_245 ?_
  refine v_sld F (pc := 246) hXs hbl hbA (z := i + 1) (by omega) hL dL_law_246 ?_
  refine v_aload_n F (pc := 247) dL_law_247 rfl ?_
  refine v_iload F (pc := 248) dL_law_248 rfl ?_
  refine v_iconst F (pc := 250) dL_law_250 ?_
  refine v_iadd F (pc := 251) (a := i) (b := 2) dL_law_251 ?_
  refine v_sld F (pc := 252) hXs hbl hbA (z := i + 2) (by omega) hL dL_law_252 ?_
  refine v_aload_n F (pc := 253) dL_law_253 rfl ?_
  refine v_iload F (pc := 254) dL_law_254 rfl ?_
  refine v_iconst F (pc := 256) dL_law_256 ?_
  refine v_iadd F (pc := 257) (a := i) (b := 3) dL_law_257 ?_
  refine v_sld F (pc := 258) hXs hbl hbA (z := i + 3) (by omega) hL dL_law_258 ?_
  refine v_callW F (pc := 259) (n := 4) (As := [.ref x, .int (iI (sX xs (i + 1))), .int (iI (sX xs (i + 2))), .int (iI (sX xs (i + 3)))]) (rest := []) lm_setRow lx_L lc_setRow ⟨by decide, by decide, by decide +kernel⟩ ls_setRow (CMW.frame (k := mheap g P σ) (CMW.frame (k := fO g o v0) (KL_setRow l g hX (sX xs (i + 1)) (sX xs (i + 2)) (sX xs (i + 3)) (sX_rng xs (i + 1)) (sX_rng xs (i + 2)) (sX_rng xs (i + 3))) hdO) hd) hN dL_law_259 rfl rfl (Nat.le_of_ble_eq_true rfl) (Nat.le_of_ble_eq_true rfl) (Nat.le_of_ble_eq_true rfl) (by show cells + 4 ≤ 601024; omega) (by show slots + 24 ≤ 7293034; omega) (fun v1 h1 hp => ?_)
  obtain ⟨h9, ⟨h2, ⟨rfl, hX2⟩, rfl, hd1⟩, rfl, hd2⟩ := hp
  have ho2 : h2 o = none := hd1 o (by rw [fO_s]; exact fun z => by cases z)
  refine v_istore F (pc := 262) (lo' := [some (.ref b), some (.ref x), some (.ref (P 0)), some (.ref o), some (.int (iI i)), some (.int (iI (sR_c σ (sX xs (i + 1)) (sX xs (i + 2)) (sX xs (i + 3))))), none]) dL_law_262 (Nat.le_of_ble_eq_true rfl) rfl ?_
  rw [f_or_comm hd2]
  have hd3 := f_or_apart hd2
  refine v_aload_n F (pc := 264) dL_law_264 rfl ?_
  refine v_aload_n F (pc := 265) dL_law_265 rfl ?_
  refine v_iload F (pc := 266) dL_law_266 rfl ?_
  refine v_iconst F (pc := 268) dL_law_268 ?_
  refine v_iadd F (pc := 269) (a := i) (b := 1) dL_law_269 ?_
  refine v_sld F (pc := 270) hXs hbl hbA (z := i + 1) (by omega) hL dL_law_270 ?_
  refine v_aload_n F (pc := 271) dL_law_271 rfl ?_
  refine v_iload F (pc := 272) dL_law_272 rfl ?_
  refine v_iconst F (pc := 274) dL_law_274 ?_
  refine v_iadd F (pc := 275) (a := i) (b := 2) dL_law_275 ?_
  refine v_sld F (pc := 276) hXs hbl hbA (z := i + 2) (by omega) hL dL_law_276 ?_
  refine v_aload_n F (pc := 277) dL_law_277 rfl ?_
  refine v_iload F (pc := 278) dL_law_278 rfl ?_
  refine v_iconst F (pc := 280) dL_law_280 ?_
  refine v_iadd F (pc := 281) (a := i) (b := 3) dL_law_281 ?_
  refine v_sld F (pc := 282) hXs hbl hbA (z := i + 3) (by omega) hL dL_law_282 ?_
  refine v_callV F (pc := 283) (As := [.int (iI (sX xs (i + 1))), .int (iI (sX xs (i + 2))), .int (iI (sX xs (i + 3)))]) (rest := []) ci_L_100 ct_X5_setRow cs_X5_setRow (CM.frame (k := f_or h2 (fO g o v0)) (k_X5_setRow l g hP hB (sX xs (i + 1)) (sX xs (i + 2)) (sX xs (i + 3)) (sX_rng xs (i + 1)) (sX_rng xs (i + 2)) (sX_rng xs (i + 3))) hd3) dL_law_283 (k0 := 8) rfl rfl (f_or_l (mh_0 hP)) rfl rfl (Nat.le_of_ble_eq_true rfl) (Nat.le_of_ble_eq_true rfl) (Nat.le_of_ble_eq_true rfl) (by show cells + 4 ≤ 601024; omega) (by show slots + 24 ≤ 7293034; omega) (fun v1 h1 hp => ?_) (fun E h1 hp => by obtain ⟨_, z, _⟩ := hp; exact z.elim)
  obtain ⟨h9, ⟨rfl, rfl⟩, rfl, hd4⟩ := hp
  have hB2 := SX.mb hX2
  refine v_aload_n F (pc := 286) dL_law_286 rfl ?_
  refine v_callV F (pc := 287) (As := []) (rest := []) ci_L_93 ct_X5_thrown cs_X5_thrown (CM.frame (k := f_or h2 (fO g o v0)) (k_X5_thrown l g hP hB2) hd4) dL_law_287 (k0 := 8) rfl rfl (f_or_l (mh_0 hP)) rfl rfl (Nat.le_of_ble_eq_true rfl) (Nat.le_of_ble_eq_true rfl) (Nat.le_of_ble_eq_true rfl) (by show cells + 4 ≤ 601024; omega) (by show slots + 24 ≤ 7293034; omega) (fun v1 h1 hp => ?_) (fun E h1 hp => by obtain ⟨_, z, _⟩ := hp; exact z.elim)
  obtain ⟨h9, ⟨rfl, rfl⟩, rfl, hd5⟩ := hp
  have h0c : (sR_s σ (sX xs (i + 1)) (sX xs (i + 2)) (sX xs (i + 3))) 0 0 = sR_c σ (sX xs (i + 1)) (sX xs (i + 2)) (sX xs (i + 3)) := t0_setRow σ (sX xs (i + 1)) (sX xs (i + 2)) (sX xs (i + 3))
  rw [h0c]
  have hcr : 0 ≤ sR_c σ (sX xs (i + 1)) (sX xs (i + 2)) (sX xs (i + 3)) ∧ sR_c σ (sX xs (i + 1)) (sX xs (i + 2)) (sX xs (i + 3)) ≤ 3 := by rw [← h0c]; exact hB2 0 0 (by decide) (by decide)
  refine v_iload F (pc := 290) dL_law_290 rfl ?_
  refine v_eqS F (pc := 292) 297 dL_law_292 (by decide) ?_
  have fin : V p l e room_1 s m args below meth c Q 7 g A (f_or (mheap g P (sR_s σ (sX xs (i + 1)) (sX xs (i + 2)) (sX xs (i + 3)))) (f_or h2 (fO g o v0))) (cells + 4) (slots + 24) 1621 [some (.ref b), some (.ref x), some (.ref (P 0)), some (.ref o), some (.int (iI i)), some (.int (iI (sR_c σ (sX xs (i + 1)) (sX xs (i + 2)) (sX xs (i + 3))))), none] [] := by rw [f_or_comm hd5]; exact V.fg (kk h2 v0 hX2 ho2 (f_or_apart hd5)) ⟨rfl, rfl, rfl, rfl, rfl, trivial⟩
  exact v_goto F (pc := 297) 1621 dL_law_297 (by decide) fin
set_option maxRecDepth 100000 in
theorem LC_setFeed {p : Program} {l : Launch} {e : Env} {s : State} {m : MethodId} {args : Array Value} {below : List Frame} {meth : Method} {c : Code} {Q : State → Prop} {g : gT} {A : Nat → Prop} (F : Fx p l s m args meth c cL_law 7 ret RL g A) (hN : NC s) {b L : Nat} {xs : Nat → Int32} (hXs : va_X b L xs s s.heap) (hbl : b < s.heap.size) (hbA : ¬ A b) (hL : L ≤ 2560) {x o : Nat} {P : Nat → Nat} {hC : fH} {v0 : Int64} {σ : sT} {i : Int} (hi : 0 ≤ i ∧ i + 5 ≤ L) (hP : mok P) (hX : SX g x hC σ) (ho : hC o = none) (hd : ∀ a, mheap g P σ a ≠ none → f_or hC (fO g o v0) a = none) (hgv : σ 18 0 < 1000000) {cells slots : Nat} (hc : cells + 60 ≤ 601024) (hs : slots + 9000 ≤ 7293034) (kk : ∀ (h2 : fH) (v2 : Int64), SX g x h2 (sF_s σ (sX xs (i + 1)) (sX xs (i + 2))) → h2 o = none → (∀ a, mheap g P (sF_s σ (sX xs (i + 1)) (sX xs (i + 2))) a ≠ none → f_or h2 (fO g o v2) a = none) → V p l e room_1 s m args below meth c Q 7 g A (f_or (f_or h2 (fO g o v2)) (mheap g P (sF_s σ (sX xs (i + 1)) (sX xs (i + 2))))) (cells + 3) (slots + 18) 1621 [some (.ref b), some (.ref x), some (.ref (P 0)), some (.ref o), some (.int (iI i)), none, none] []) : V p l e room_1 s m args below meth c Q 7 g A (f_or (f_or hC (fO g o v0)) (mheap g P σ)) cells slots 300 [some (.ref b), some (.ref x), some (.ref (P 0)), some (.ref o), some (.int (iI i)), none, none] [] := by
  have hB := SX.mb hX
  have hdO : ∀ a, fO g o v0 a ≠ none → hC a = none := fun a ha => by rw [fO_n ha]; exact ho
  refine v_aload_n F (pc := 300) dL_law_300 rfl ?_
  refine v_aload_n F (pc := 301) dL_law_301 rfl ?_
  refine v_iload F (pc := 302) dL_law_302 rfl ?_
  refine v_iconst F (pc := 304) dL_law_304 ?_
  refine v_iadd F (pc := 305) (a := i) (b := 1) dL_law_305 ?_
  refine v_sld F (pc := 306) hXs hbl hbA (z := i + 1) (by omega) hL dL_law_306 ?_
  refine v_aload_n F (pc := 307) dL_law_307 rfl ?_
  refine v_iload F (pc := 308) dL_law_308 rfl ?_
  refine v_iconst F (pc := 310) dL_law_310 ?_
  refine v_iadd F (pc := 311) (a := i) (b := 2) dL_law_311 ?_
  refine v_sld F (pc := 312) hXs hbl hbA (z := i + 2) (by omega) hL dL_law_312 ?_
  refine v_aload_n F (pc := 313) dL_law_313 rfl ?_
  refine v_callW F (pc := 314) (n := 4) (As := [.ref x, .int (iI (sX xs (i + 1))), .int (iI (sX xs (i + 2))), .ref o]) (rest := []) lm_setFeed lx_L lc_setFeed ⟨by decide, by decide, by decide +kernel⟩ ls_setFeed (CMW.frame (k := mheap g P σ) (KL_setFeed l g hX ho v0 (sX xs (i + 1)) (sX xs (i + 2)) (sX_rng xs (i + 1)) (sX_rng xs (i + 2))) hd) hN dL_law_314 rfl rfl (Nat.le_of_ble_eq_true rfl) (Nat.le_of_ble_eq_true rfl) (Nat.le_of_ble_eq_true rfl) (by show cells + 3 ≤ 601024; omega) (by show slots + 18 ≤ 7293034; omega) (fun v1 h1 hp => ?_)
  obtain ⟨h9, ⟨h2, v2, rfl, rfl, ho2, hX2, hv2⟩, rfl, hd2⟩ := hp
  refine v_istore F (pc := 317) (lo' := [some (.ref b), some (.ref x), some (.ref (P 0)), some (.ref o), some (.int (iI i)), some (.int (iI (sF_c σ (sX xs (i + 1)) (sX xs (i + 2))))), none]) dL_law_317 (Nat.le_of_ble_eq_true rfl) rfl ?_
  rw [f_or_comm hd2]
  have hd3 := f_or_apart hd2
  refine v_aload_n F (pc := 319) dL_law_319 rfl ?_
  refine v_aload_n F (pc := 320) dL_law_320 rfl ?_
  refine v_iload F (pc := 321) dL_law_321 rfl ?_
  refine v_iconst F (pc := 323) dL_law_323 ?_
  refine v_iadd F (pc := 324) (a := i) (b := 1) dL_law_324 ?_
  refine v_sld F (pc := 325) hXs hbl hbA (z := i + 1) (by omega) hL dL_law_325 ?_
  refine v_aload_n F (pc := 326) dL_law_326 rfl ?_
  refine v_iload F (pc := 327) dL_law_327 rfl ?_
  refine v_iconst F (pc := 329) dL_law_329 ?_
  refine v_iadd F (pc := 330) (a := i) (b := 2) dL_law_330 ?_
  refine v_sld F (pc := 331) hXs hbl hbA (z := i + 2) (by omega) hL dL_law_331 ?_
  refine v_callV F (pc := 332) (As := [.int (iI (sX xs (i + 1))), .int (iI (sX xs (i + 2)))]) (rest := []) ci_L_104 ct_X5_setFeed cs_X5_setFeed (CM.frame (k := f_or h2 (fO g o v2)) (k_X5_setFeed l g hP hB (sX xs (i + 1)) (sX xs (i + 2)) (sX_rng xs (i + 1)) (sX_rng xs (i + 2))) hd3) dL_law_332 (k0 := 8) rfl rfl (f_or_l (mh_0 hP)) rfl rfl (Nat.le_of_ble_eq_true rfl) (Nat.le_of_ble_eq_true rfl) (Nat.le_of_ble_eq_true rfl) (by show cells + 3 ≤ 601024; omega) (by show slots + 18 ≤ 7293034; omega) (fun v1 h1 hp => ?_) (fun E h1 hp => by obtain ⟨_, z, _⟩ := hp; exact z.elim)
  obtain ⟨h9, ⟨rfl, rfl⟩, rfl, hd4⟩ := hp
  have hB2 := SX.mb hX2
  refine v_istore F (pc := 335) (lo' := [some (.ref b), some (.ref x), some (.ref (P 0)), some (.ref o), some (.int (iI i)), some (.int (iI (sF_c σ (sX xs (i + 1)) (sX xs (i + 2))))), some (.int (iI (sF_a σ (sX xs (i + 1)) (sX xs (i + 2)))))]) dL_law_335 (Nat.le_of_ble_eq_true rfl) rfl ?_
  refine v_aload_n F (pc := 337) dL_law_337 rfl ?_
  refine v_callV F (pc := 338) (As := []) (rest := []) ci_L_93 ct_X5_thrown cs_X5_thrown (CM.frame (k := f_or h2 (fO g o v2)) (k_X5_thrown l g hP hB2) hd4) dL_law_338 (k0 := 8) rfl rfl (f_or_l (mh_0 hP)) rfl rfl (Nat.le_of_ble_eq_true rfl) (Nat.le_of_ble_eq_true rfl) (Nat.le_of_ble_eq_true rfl) (by show cells + 3 ≤ 601024; omega) (by show slots + 18 ≤ 7293034; omega) (fun v1 h1 hp => ?_) (fun E h1 hp => by obtain ⟨_, z, _⟩ := hp; exact z.elim)
  obtain ⟨h9, ⟨rfl, rfl⟩, rfl, hd5⟩ := hp
  have h0c : (sF_s σ (sX xs (i + 1)) (sX xs (i + 2))) 0 0 = sF_c σ (sX xs (i + 1)) (sX xs (i + 2)) := t0_setFeed σ (sX xs (i + 1)) (sX xs (i + 2))
  rw [h0c]
  have hcr : 0 ≤ sF_c σ (sX xs (i + 1)) (sX xs (i + 2)) ∧ sF_c σ (sX xs (i + 1)) (sX xs (i + 2)) ≤ 3 := by rw [← h0c]; exact hB2 0 0 (by decide) (by decide)
  refine v_iload F (pc := 341) dL_law_341 rfl ?_
  refine v_eqS F (pc := 343) 348 dL_law_343 (by decide) ?_
  have fin : V p l e room_1 s m args below meth c Q 7 g A (f_or (mheap g P (sF_s σ (sX xs (i + 1)) (sX xs (i + 2)))) (f_or h2 (fO g o v2))) (cells + 3) (slots + 18) 1621 [some (.ref b), some (.ref x), some (.ref (P 0)), some (.ref o), some (.int (iI i)), some (.int (iI (sF_c σ (sX xs (i + 1)) (sX xs (i + 2))))), some (.int (iI (sF_a σ (sX xs (i + 1)) (sX xs (i + 2)))))] [] := by rw [f_or_comm hd5]; exact V.fg (kk h2 v2 hX2 ho2 (f_or_apart hd5)) ⟨rfl, rfl, rfl, rfl, rfl, trivial⟩
  refine v_iload F (pc := 348) dL_law_348 rfl ?_
  refine v_if_ne F (pc := 350) (a := sF_c σ (sX xs (i + 1)) (sX xs (i + 2))) 365 dL_law_350 (by decide) (by omega) (fun c_1 => ?_) (fun c_1 => ?_)
  · exact v_goto F (pc := 365) 1621 dL_law_365 (by decide) fin
  · have hv := hv2 c_1
    refine v_aload_n F (pc := 353) dL_law_353 rfl ?_
    refine v_iconst F (pc := 354) dL_law_354 ?_
    refine v_lald F (pc := 355) (v := v2) (((f_or_r (hd5 o (by rw [f_or_r ho2, fO_s]; exact fun z => by cases z))).trans (f_or_r ho2)).trans fO_s) dL_law_355 ?_
    refine v_iload F (pc := 356) dL_law_356 rfl ?_
    refine v_i2l9 F (pc := 358) dL_law_358 ?_
    refine v_lcmpE F (pc := 359) hv dL_law_359 ?_
    exact v_if_eq F (pc := 360) (a := 0) 365 dL_law_360 (by decide) (by decide) (fun _ => v_goto F (pc := 365) 1621 dL_law_365 (by decide) fin) (fun z => absurd rfl z)
set_option maxRecDepth 100000 in
theorem LC_switchFeed {p : Program} {l : Launch} {e : Env} {s : State} {m : MethodId} {args : Array Value} {below : List Frame} {meth : Method} {c : Code} {Q : State → Prop} {g : gT} {A : Nat → Prop} (F : Fx p l s m args meth c cL_law 7 ret RL g A) (hN : NC s) {b L : Nat} {xs : Nat → Int32} (hXs : va_X b L xs s s.heap) (hbl : b < s.heap.size) (hbA : ¬ A b) (hL : L ≤ 2560) {x o : Nat} {P : Nat → Nat} {hC : fH} {v0 : Int64} {σ : sT} {i : Int} (hi : 0 ≤ i ∧ i + 5 ≤ L) (hP : mok P) (hX : SX g x hC σ) (ho : hC o = none) (hd : ∀ a, mheap g P σ a ≠ none → f_or hC (fO g o v0) a = none) (hgv : σ 18 0 < 1000000) {cells slots : Nat} (hc : cells + 60 ≤ 601024) (hs : slots + 9000 ≤ 7293034) (kk : ∀ (h2 : fH) (v2 : Int64), SX g x h2 (wF_s σ (sX xs (i + 1))) → h2 o = none → (∀ a, mheap g P (wF_s σ (sX xs (i + 1))) a ≠ none → f_or h2 (fO g o v2) a = none) → V p l e room_1 s m args below meth c Q 7 g A (f_or (f_or h2 (fO g o v2)) (mheap g P (wF_s σ (sX xs (i + 1))))) (cells + 1) (slots + 6) 1621 [some (.ref b), some (.ref x), some (.ref (P 0)), some (.ref o), some (.int (iI i)), none, none] []) : V p l e room_1 s m args below meth c Q 7 g A (f_or (f_or hC (fO g o v0)) (mheap g P σ)) cells slots 368 [some (.ref b), some (.ref x), some (.ref (P 0)), some (.ref o), some (.int (iI i)), none, none] [] := by
  have hB := SX.mb hX
  have hdO : ∀ a, fO g o v0 a ≠ none → hC a = none := fun a ha => by rw [fO_n ha]; exact ho
  refine v_aload_n F (pc := 368) dL_law_368 rfl ?_
  refine v_aload_n F (pc := 369) dL_law_369 rfl ?_
  refine v_iload F (pc := 370) dL_law_370 rfl ?_
  refine v_iconst F (pc := 372) dL_law_372 ?_
  refine v_iadd F (pc := 373) (a := i) (b := 1) dL_law_373 ?_
  refine v_sld F (pc := 374) hXs hbl hbA (z := i + 1) (by omega) hL dL_law_374 ?_
  refine v_aload_n F (pc := 375) dL_law_375 rfl ?_
  refine v_callW F (pc := 376) (n := 3) (As := [.ref x, .int (iI (sX xs (i + 1))), .ref o]) (rest := []) lm_switchFeed lx_L lc_switchFeed ⟨by decide, by decide, by decide +kernel⟩ ls_switchFeed (CMW.frame (k := mheap g P σ) (KL_switchFeed l g hX ho v0 (sX xs (i + 1)) (sX_rng xs (i + 1))) hd) hN dL_law_376 rfl rfl (Nat.le_of_ble_eq_true rfl) (Nat.le_of_ble_eq_true rfl) (Nat.le_of_ble_eq_true rfl) (by show cells + 1 ≤ 601024; omega) (by show slots + 6 ≤ 7293034; omega) (fun v1 h1 hp => ?_)
  obtain ⟨h9, ⟨h2, v2, rfl, rfl, ho2, hX2, hv2⟩, rfl, hd2⟩ := hp
  refine v_istore F (pc := 379) (lo' := [some (.ref b), some (.ref x), some (.ref (P 0)), some (.ref o), some (.int (iI i)), some (.int (iI (c01 (inn (sX xs (i + 1)) 0 1)))), none]) dL_law_379 (Nat.le_of_ble_eq_true rfl) rfl ?_
  rw [f_or_comm hd2]
  have hd3 := f_or_apart hd2
  refine v_aload_n F (pc := 381) dL_law_381 rfl ?_
  refine v_aload_n F (pc := 382) dL_law_382 rfl ?_
  refine v_iload F (pc := 383) dL_law_383 rfl ?_
  refine v_iconst F (pc := 385) dL_law_385 ?_
  refine v_iadd F (pc := 386) (a := i) (b := 1) dL_law_386 ?_
  refine v_sld F (pc := 387) hXs hbl hbA (z := i + 1) (by omega) hL dL_law_387 ?_
  refine v_callV F (pc := 388) (As := [.int (iI (sX xs (i + 1)))]) (rest := []) ci_L_108 ct_X5_switchFeed cs_X5_switchFeed (CM.frame (k := f_or h2 (fO g o v2)) (k_X5_switchFeed l g hP hB (sX xs (i + 1)) (sX_rng xs (i + 1))) hd3) dL_law_388 (k0 := 8) rfl rfl (f_or_l (mh_0 hP)) rfl rfl (Nat.le_of_ble_eq_true rfl) (Nat.le_of_ble_eq_true rfl) (Nat.le_of_ble_eq_true rfl) (by show cells + 1 ≤ 601024; omega) (by show slots + 6 ≤ 7293034; omega) (fun v1 h1 hp => ?_) (fun E h1 hp => by obtain ⟨_, z, _⟩ := hp; exact z.elim)
  obtain ⟨h9, ⟨rfl, rfl⟩, rfl, hd4⟩ := hp
  have hB2 := SX.mb hX2
  refine v_istore F (pc := 391) (lo' := [some (.ref b), some (.ref x), some (.ref (P 0)), some (.ref o), some (.int (iI i)), some (.int (iI (c01 (inn (sX xs (i + 1)) 0 1)))), some (.int (iI (wF_a σ (sX xs (i + 1)))))]) dL_law_391 (Nat.le_of_ble_eq_true rfl) rfl ?_
  refine v_aload_n F (pc := 393) dL_law_393 rfl ?_
  refine v_callV F (pc := 394) (As := []) (rest := []) ci_L_93 ct_X5_thrown cs_X5_thrown (CM.frame (k := f_or h2 (fO g o v2)) (k_X5_thrown l g hP hB2) hd4) dL_law_394 (k0 := 8) rfl rfl (f_or_l (mh_0 hP)) rfl rfl (Nat.le_of_ble_eq_true rfl) (Nat.le_of_ble_eq_true rfl) (Nat.le_of_ble_eq_true rfl) (by show cells + 1 ≤ 601024; omega) (by show slots + 6 ≤ 7293034; omega) (fun v1 h1 hp => ?_) (fun E h1 hp => by obtain ⟨_, z, _⟩ := hp; exact z.elim)
  obtain ⟨h9, ⟨rfl, rfl⟩, rfl, hd5⟩ := hp
  have h0c : (wF_s σ (sX xs (i + 1))) 0 0 = c01 (inn (sX xs (i + 1)) 0 1) := t0_switchFeed σ (sX xs (i + 1))
  rw [h0c]
  have hcr : 0 ≤ c01 (inn (sX xs (i + 1)) 0 1) ∧ c01 (inn (sX xs (i + 1)) 0 1) ≤ 3 := by rw [← h0c]; exact hB2 0 0 (by decide) (by decide)
  refine v_iload F (pc := 397) dL_law_397 rfl ?_
  refine v_eqS F (pc := 399) 404 dL_law_399 (by decide) ?_
  have fin : V p l e room_1 s m args below meth c Q 7 g A (f_or (mheap g P (wF_s σ (sX xs (i + 1)))) (f_or h2 (fO g o v2))) (cells + 1) (slots + 6) 1621 [some (.ref b), some (.ref x), some (.ref (P 0)), some (.ref o), some (.int (iI i)), some (.int (iI (c01 (inn (sX xs (i + 1)) 0 1)))), some (.int (iI (wF_a σ (sX xs (i + 1)))))] [] := by rw [f_or_comm hd5]; exact V.fg (kk h2 v2 hX2 ho2 (f_or_apart hd5)) ⟨rfl, rfl, rfl, rfl, rfl, trivial⟩
  refine v_iload F (pc := 404) dL_law_404 rfl ?_
  refine v_if_ne F (pc := 406) (a := c01 (inn (sX xs (i + 1)) 0 1)) 421 dL_law_406 (by decide) (by omega) (fun c_1 => ?_) (fun c_1 => ?_)
  · exact v_goto F (pc := 421) 1621 dL_law_421 (by decide) fin
  · have hv := hv2 c_1
    refine v_aload_n F (pc := 409) dL_law_409 rfl ?_
    refine v_iconst F (pc := 410) dL_law_410 ?_
    refine v_lald F (pc := 411) (v := v2) (((f_or_r (hd5 o (by rw [f_or_r ho2, fO_s]; exact fun z => by cases z))).trans (f_or_r ho2)).trans fO_s) dL_law_411 ?_
    refine v_iload F (pc := 412) dL_law_412 rfl ?_
    refine v_i2l9 F (pc := 414) dL_law_414 ?_
    refine v_lcmpE F (pc := 415) hv dL_law_415 ?_
    exact v_if_eq F (pc := 416) (a := 0) 421 dL_law_416 (by decide) (by decide) (fun _ => v_goto F (pc := 421) 1621 dL_law_421 (by decide) fin) (fun z => absurd rfl z)
set_option maxRecDepth 100000 in
theorem LC_hasFailed {p : Program} {l : Launch} {e : Env} {s : State} {m : MethodId} {args : Array Value} {below : List Frame} {meth : Method} {c : Code} {Q : State → Prop} {g : gT} {A : Nat → Prop} (F : Fx p l s m args meth c cL_law 7 ret RL g A) (hN : NC s) {b L : Nat} {xs : Nat → Int32} (hXs : va_X b L xs s s.heap) (hbl : b < s.heap.size) (hbA : ¬ A b) (hL : L ≤ 2560) {x o : Nat} {P : Nat → Nat} {hC : fH} {v0 : Int64} {σ : sT} {i : Int} (hi : 0 ≤ i ∧ i + 5 ≤ L) (hP : mok P) (hX : SX g x hC σ) (ho : hC o = none) (hd : ∀ a, mheap g P σ a ≠ none → f_or hC (fO g o v0) a = none) (hgv : σ 18 0 < 1000000) {cells slots : Nat} (hc : cells + 60 ≤ 601024) (hs : slots + 9000 ≤ 7293034) (kk : ∀ (h2 : fH) (v2 : Int64), SX g x h2 (su σ 0 0 (c01 (inn (sX xs (i + 1)) 0 1))) → h2 o = none → (∀ a, mheap g P (su σ 0 0 (c01 (inn (sX xs (i + 1)) 0 1))) a ≠ none → f_or h2 (fO g o v2) a = none) → V p l e room_1 s m args below meth c Q 7 g A (f_or (f_or h2 (fO g o v2)) (mheap g P (su σ 0 0 (c01 (inn (sX xs (i + 1)) 0 1))))) (cells + 1) (slots + 6) 1621 [some (.ref b), some (.ref x), some (.ref (P 0)), some (.ref o), some (.int (iI i)), none, none] []) : V p l e room_1 s m args below meth c Q 7 g A (f_or (f_or hC (fO g o v0)) (mheap g P σ)) cells slots 424 [some (.ref b), some (.ref x), some (.ref (P 0)), some (.ref o), some (.int (iI i)), none, none] [] := by
  have hB := SX.mb hX
  have hdO : ∀ a, fO g o v0 a ≠ none → hC a = none := fun a ha => by rw [fO_n ha]; exact ho
  refine v_aload_n F (pc := 424) dL_law_424 rfl ?_
  refine v_aload_n F (pc := 425) dL_law_425 rfl ?_
  refine v_iload F (pc := 426) dL_law_426 rfl ?_
  refine v_iconst F (pc := 428) dL_law_428 ?_
  refine v_iadd F (pc := 429) (a := i) (b := 1) dL_law_429 ?_
  refine v_sld F (pc := 430) hXs hbl hbA (z := i + 1) (by omega) hL dL_law_430 ?_
  refine v_aload_n F (pc := 431) dL_law_431 rfl ?_
  refine v_callW F (pc := 432) (n := 3) (As := [.ref x, .int (iI (sX xs (i + 1))), .ref o]) (rest := []) lm_hasFailed lx_L lc_hasFailed ⟨by decide, by decide, by decide +kernel⟩ ls_hasFailed (CMW.frame (k := mheap g P σ) (KL_hasFailed l g hX ho v0 (sX xs (i + 1)) (sX_rng xs (i + 1))) hd) hN dL_law_432 rfl rfl (Nat.le_of_ble_eq_true rfl) (Nat.le_of_ble_eq_true rfl) (Nat.le_of_ble_eq_true rfl) (by show cells + 1 ≤ 601024; omega) (by show slots + 6 ≤ 7293034; omega) (fun v1 h1 hp => ?_)
  obtain ⟨h9, ⟨h2, v2, rfl, rfl, ho2, hX2, hv2⟩, rfl, hd2⟩ := hp
  refine v_istore F (pc := 435) (lo' := [some (.ref b), some (.ref x), some (.ref (P 0)), some (.ref o), some (.int (iI i)), some (.int (iI (c01 (inn (sX xs (i + 1)) 0 1)))), none]) dL_law_435 (Nat.le_of_ble_eq_true rfl) rfl ?_
  rw [f_or_comm hd2]
  have hd3 := f_or_apart hd2
  refine v_aload_n F (pc := 437) dL_law_437 rfl ?_
  refine v_aload_n F (pc := 438) dL_law_438 rfl ?_
  refine v_iload F (pc := 439) dL_law_439 rfl ?_
  refine v_iconst F (pc := 441) dL_law_441 ?_
  refine v_iadd F (pc := 442) (a := i) (b := 1) dL_law_442 ?_
  refine v_sld F (pc := 443) hXs hbl hbA (z := i + 1) (by omega) hL dL_law_443 ?_
  refine v_callV F (pc := 444) (As := [.int (iI (sX xs (i + 1)))]) (rest := []) ci_L_111 ct_X5_hasFailed cs_X5_hasFailed (CM.frame (k := f_or h2 (fO g o v2)) (k_X5_hasFailed l g hP hB (sX xs (i + 1)) (sX_rng xs (i + 1))) hd3) dL_law_444 (k0 := 8) rfl rfl (f_or_l (mh_0 hP)) rfl rfl (Nat.le_of_ble_eq_true rfl) (Nat.le_of_ble_eq_true rfl) (Nat.le_of_ble_eq_true rfl) (by show cells + 1 ≤ 601024; omega) (by show slots + 6 ≤ 7293034; omega) (fun v1 h1 hp => ?_) (fun E h1 hp => by obtain ⟨_, z, _⟩ := hp; exact z.elim)
  obtain ⟨h9, ⟨rfl, rfl⟩, rfl, hd4⟩ := hp
  have hB2 := SX.mb hX2
  refine v_istore F (pc := 447) (lo' := [some (.ref b), some (.ref x), some (.ref (P 0)), some (.ref o), some (.int (iI i)), some (.int (iI (c01 (inn (sX xs (i + 1)) 0 1)))), some (.int (iI (bI (decide (c01 (inn (sX xs (i + 1)) 0 1) = 0) && decide (σ 9 (sX xs (i + 1)) = 1)))))]) dL_law_447 (Nat.le_of_ble_eq_true rfl) rfl ?_
  refine v_aload_n F (pc := 449) dL_law_449 rfl ?_
  refine v_callV F (pc := 450) (As := []) (rest := []) ci_L_93 ct_X5_thrown cs_X5_thrown (CM.frame (k := f_or h2 (fO g o v2)) (k_X5_thrown l g hP hB2) hd4) dL_law_450 (k0 := 8) rfl rfl (f_or_l (mh_0 hP)) rfl rfl (Nat.le_of_ble_eq_true rfl) (Nat.le_of_ble_eq_true rfl) (Nat.le_of_ble_eq_true rfl) (by show cells + 1 ≤ 601024; omega) (by show slots + 6 ≤ 7293034; omega) (fun v1 h1 hp => ?_) (fun E h1 hp => by obtain ⟨_, z, _⟩ := hp; exact z.elim)
  obtain ⟨h9, ⟨rfl, rfl⟩, rfl, hd5⟩ := hp
  have h0c : (su σ 0 0 (c01 (inn (sX xs (i + 1)) 0 1))) 0 0 = c01 (inn (sX xs (i + 1)) 0 1) := t0_hasFailed σ (sX xs (i + 1))
  rw [h0c]
  have hcr : 0 ≤ c01 (inn (sX xs (i + 1)) 0 1) ∧ c01 (inn (sX xs (i + 1)) 0 1) ≤ 3 := by rw [← h0c]; exact hB2 0 0 (by decide) (by decide)
  refine v_iload F (pc := 453) dL_law_453 rfl ?_
  refine v_eqS F (pc := 455) 460 dL_law_455 (by decide) ?_
  have fin : V p l e room_1 s m args below meth c Q 7 g A (f_or (mheap g P (su σ 0 0 (c01 (inn (sX xs (i + 1)) 0 1)))) (f_or h2 (fO g o v2))) (cells + 1) (slots + 6) 1621 [some (.ref b), some (.ref x), some (.ref (P 0)), some (.ref o), some (.int (iI i)), some (.int (iI (c01 (inn (sX xs (i + 1)) 0 1)))), some (.int (iI (bI (decide (c01 (inn (sX xs (i + 1)) 0 1) = 0) && decide (σ 9 (sX xs (i + 1)) = 1)))))] [] := by rw [f_or_comm hd5]; exact V.fg (kk h2 v2 hX2 ho2 (f_or_apart hd5)) ⟨rfl, rfl, rfl, rfl, rfl, trivial⟩
  refine v_iload F (pc := 460) dL_law_460 rfl ?_
  refine v_if_ne F (pc := 462) (a := c01 (inn (sX xs (i + 1)) 0 1)) 484 dL_law_462 (by decide) (by omega) (fun c_1 => ?_) (fun c_1 => ?_)
  · exact v_goto F (pc := 484) 1621 dL_law_484 (by decide) fin
  · have hv := hv2 c_1
    refine v_aload_n F (pc := 465) dL_law_465 rfl ?_
    refine v_iconst F (pc := 466) dL_law_466 ?_
    refine v_lald F (pc := 467) (v := v2) (((f_or_r (hd5 o (by rw [f_or_r ho2, fO_s]; exact fun z => by cases z))).trans (f_or_r ho2)).trans fO_s) dL_law_467 ?_
    refine v_iload F (pc := 468) dL_law_468 rfl ?_
    refine v_if_eqB F (pc := 470) (b := decide (c01 (inn (sX xs (i + 1)) 0 1) = 0) && decide (σ 9 (sX xs (i + 1)) = 1)) 477 dL_law_470 (by decide) (fun c_2 => ?_) (fun c_2 => ?_)
    · refine v_lconst F (pc := 477) 0 rfl dL_law_477 ?_
      refine v_lcmpE F (pc := 478) (by rw [hv, c_2]; rfl) dL_law_478 ?_
      exact v_if_eq F (pc := 479) (a := 0) 484 dL_law_479 (by decide) (by decide) (fun _ => v_goto F (pc := 484) 1621 dL_law_484 (by decide) fin) (fun z => absurd rfl z)
    · refine v_lconst F (pc := 473) 1 rfl dL_law_473 ?_
      refine v_goto F (pc := 474) 478 dL_law_474 (by decide) ?_
      refine v_lcmpE F (pc := 478) (by rw [hv, c_2]; rfl) dL_law_478 ?_
      exact v_if_eq F (pc := 479) (a := 0) 484 dL_law_479 (by decide) (by decide) (fun _ => v_goto F (pc := 484) 1621 dL_law_484 (by decide) fin) (fun z => absurd rfl z)
set_option maxRecDepth 100000 in
theorem LC_racks {p : Program} {l : Launch} {e : Env} {s : State} {m : MethodId} {args : Array Value} {below : List Frame} {meth : Method} {c : Code} {Q : State → Prop} {g : gT} {A : Nat → Prop} (F : Fx p l s m args meth c cL_law 7 ret RL g A) (hN : NC s) {b L : Nat} {xs : Nat → Int32} (hXs : va_X b L xs s s.heap) (hbl : b < s.heap.size) (hbA : ¬ A b) (hL : L ≤ 2560) {x o : Nat} {P : Nat → Nat} {hC : fH} {v0 : Int64} {σ : sT} {i : Int} (hi : 0 ≤ i ∧ i + 5 ≤ L) (hP : mok P) (hX : SX g x hC σ) (ho : hC o = none) (hd : ∀ a, mheap g P σ a ≠ none → f_or hC (fO g o v0) a = none) (hgv : σ 18 0 < 1000000) {cells slots : Nat} (hc : cells + 60 ≤ 601024) (hs : slots + 9000 ≤ 7293034) (kk : ∀ (h2 : fH) (v2 : Int64), SX g x h2 (su σ 0 0 0) → h2 o = none → (∀ a, mheap g P (su σ 0 0 0) a ≠ none → f_or h2 (fO g o v2) a = none) → V p l e room_1 s m args below meth c Q 7 g A (f_or (f_or h2 (fO g o v2)) (mheap g P (su σ 0 0 0))) (cells + 0) (slots + 0) 1621 [some (.ref b), some (.ref x), some (.ref (P 0)), some (.ref o), some (.int (iI i)), none, none] []) : V p l e room_1 s m args below meth c Q 7 g A (f_or (f_or hC (fO g o v0)) (mheap g P σ)) cells slots 487 [some (.ref b), some (.ref x), some (.ref (P 0)), some (.ref o), some (.int (iI i)), none, none] [] := by
  have hB := SX.mb hX
  have hdO : ∀ a, fO g o v0 a ≠ none → hC a = none := fun a ha => by rw [fO_n ha]; exact ho
  refine v_aload_n F (pc := 487) dL_law_487 rfl ?_
  obtain ⟨fs, hfs⟩ := SX.obj hX
  refine v_callV F (pc := 488) (As := []) (rest := []) ci_L_112 ct_X4_racks cs_X4_racks (CM.frame (k := mheap g P σ) (CM.frame (k := fO g o v0) (J_racks l g hX) hdO) hd) dL_law_488 (k0 := 7) rfl rfl (f_or_l (f_or_l hfs)) rfl rfl (Nat.le_of_ble_eq_true rfl) (Nat.le_of_ble_eq_true rfl) (Nat.le_of_ble_eq_true rfl) (by show cells + 0 ≤ 601024; omega) (by show slots + 0 ≤ 7293034; omega) (fun v1 h1 hp => ?_) (fun E h1 hp => by obtain ⟨_, ⟨_, z, _⟩, _⟩ := hp; exact z.elim)
  obtain ⟨h9, ⟨h2, ⟨_, rfl, hX2⟩, rfl, hd1⟩, rfl, hd2⟩ := hp
  have ho2 : h2 o = none := hd1 o (by rw [fO_s]; exact fun z => by cases z)
  rw [f_or_comm hd2]
  have hd3 := f_or_apart hd2
  refine v_aload_n F (pc := 491) dL_law_491 rfl ?_
  refine v_callV F (pc := 492) (As := []) (rest := [.int (iI (σ 5 0))]) ci_L_115 ct_X5_racks cs_X5_racks (CM.frame (k := f_or h2 (fO g o v0)) (k_X5_racks l g hP hB) hd3) dL_law_492 (k0 := 8) rfl rfl (f_or_l (mh_0 hP)) rfl rfl (Nat.le_of_ble_eq_true rfl) (Nat.le_of_ble_eq_true rfl) (Nat.le_of_ble_eq_true rfl) (by show cells + 0 ≤ 601024; omega) (by show slots + 0 ≤ 7293034; omega) (fun v1 h1 hp => ?_) (fun E h1 hp => by obtain ⟨_, z, _⟩ := hp; exact z.elim)
  obtain ⟨h9, ⟨rfl, rfl⟩, rfl, hd5⟩ := hp
  exact v_eqS F (pc := 495) 1621 dL_law_495 (by decide) (by rw [f_or_comm hd5]; exact V.fg (kk h2 v0 hX2 ho2 (f_or_apart hd5)) ⟨rfl, rfl, rfl, rfl, rfl, trivial⟩)
set_option maxRecDepth 100000 in
theorem LC_place {p : Program} {l : Launch} {e : Env} {s : State} {m : MethodId} {args : Array Value} {below : List Frame} {meth : Method} {c : Code} {Q : State → Prop} {g : gT} {A : Nat → Prop} (F : Fx p l s m args meth c cL_law 7 ret RL g A) (hN : NC s) {b L : Nat} {xs : Nat → Int32} (hXs : va_X b L xs s s.heap) (hbl : b < s.heap.size) (hbA : ¬ A b) (hL : L ≤ 2560) {x o : Nat} {P : Nat → Nat} {hC : fH} {v0 : Int64} {σ : sT} {i : Int} (hi : 0 ≤ i ∧ i + 5 ≤ L) (hP : mok P) (hX : SX g x hC σ) (ho : hC o = none) (hd : ∀ a, mheap g P σ a ≠ none → f_or hC (fO g o v0) a = none) (hgv : σ 18 0 < 1000000) {cells slots : Nat} (hc : cells + 60 ≤ 601024) (hs : slots + 9000 ≤ 7293034) (kk : ∀ (h2 : fH) (v2 : Int64), SX g x h2 (pl_s σ (sX xs (i + 1)) (sX xs (i + 2)) (sX xs (i + 3)) (sX xs (i + 4))) → h2 o = none → (∀ a, mheap g P (pl_s σ (sX xs (i + 1)) (sX xs (i + 2)) (sX xs (i + 3)) (sX xs (i + 4))) a ≠ none → f_or h2 (fO g o v2) a = none) → V p l e room_1 s m args below meth c Q 7 g A (f_or (f_or h2 (fO g o v2)) (mheap g P (pl_s σ (sX xs (i + 1)) (sX xs (i + 2)) (sX xs (i + 3)) (sX xs (i + 4))))) (cells + 6) (slots + 181) 1621 [some (.ref b), some (.ref x), some (.ref (P 0)), some (.ref o), some (.int (iI i)), none, none] []) : V p l e room_1 s m args below meth c Q 7 g A (f_or (f_or hC (fO g o v0)) (mheap g P σ)) cells slots 500 [some (.ref b), some (.ref x), some (.ref (P 0)), some (.ref o), some (.int (iI i)), none, none] [] := by
  have hB := SX.mb hX
  have hdO : ∀ a, fO g o v0 a ≠ none → hC a = none := fun a ha => by rw [fO_n ha]; exact ho
  refine v_aload_n F (pc := 500) dL_law_500 rfl ?_
  refine v_aload_n F (pc := 501) dL_law_501 rfl ?_
  refine v_iload F (pc := 502) dL_law_502 rfl ?_
  refine v_iconst F (pc := 504) dL_law_504 ?_
  refine v_iadd F (pc := 505) (a := i) (b := 1) dL_law_505 ?_
  refine v_sld F (pc := 506) hXs hbl hbA (z := i + 1) (by omega) hL dL_law_506 ?_
  refine v_aload_n F (pc := 507) dL_law_507 rfl ?_
  refine v_iload F (pc := 508) dL_law_508 rfl ?_
  refine v_iconst F (pc := 510) dL_law_510 ?_
  refine v_iadd F (pc := 511) (a := i) (b := 2) dL_law_511 ?_
  refine v_sld F (pc := 512) hXs hbl hbA (z := i + 2) (by omega) hL dL_law_512 ?_
  refine v_aload_n F (pc := 513) dL_law_513 rfl ?_
  refine v_iload F (pc := 514) dL_law_514 rfl ?_
  refine v_iconst F (pc := 516) dL_law_516 ?_
  refine v_iadd F (pc := 517) (a := i) (b := 3) dL_law_517 ?_
  refine v_sld F (pc := 518) hXs hbl hbA (z := i + 3) (by omega) hL dL_law_518 ?_
  refine v_aload_n F (pc := 519) dL_law_519 rfl ?_
  refine v_iload F (pc := 520) dL_law_520 rfl ?_
  refine v_iconst F (pc := 522) dL_law_522 ?_
  refine v_iadd F (pc := 523) (a := i) (b := 4) dL_law_523 ?_
  refine v_sld F (pc := 524) hXs hbl hbA (z := i + 4) (by omega) hL dL_law_524 ?_
  refine v_aload_n F (pc := 525) dL_law_525 rfl ?_
  refine v_callW F (pc := 526) (n := 6) (As := [.ref x, .int (iI (sX xs (i + 1))), .int (iI (sX xs (i + 2))), .int (iI (sX xs (i + 3))), .int (iI (sX xs (i + 4))), .ref o]) (rest := []) lm_place lx_L lc_place ⟨by decide, by decide, by decide +kernel⟩ ls_place (CMW.frame (k := mheap g P σ) (KL_place l g hX ho v0 (sX xs (i + 1)) (sX xs (i + 2)) (sX xs (i + 3)) (sX xs (i + 4)) (sX_rng xs (i + 1)) (sX_rng xs (i + 2)) (sX_rng xs (i + 3)) (sX_rng xs (i + 4)) hgv) hd) hN dL_law_526 rfl rfl (Nat.le_of_ble_eq_true rfl) (Nat.le_of_ble_eq_true rfl) (Nat.le_of_ble_eq_true rfl) (by show cells + 6 ≤ 601024; omega) (by show slots + 181 ≤ 7293034; omega) (fun v1 h1 hp => ?_)
  obtain ⟨h9, ⟨h2, v2, rfl, rfl, ho2, hX2, hv2⟩, rfl, hd2⟩ := hp
  refine v_istore F (pc := 529) (lo' := [some (.ref b), some (.ref x), some (.ref (P 0)), some (.ref o), some (.int (iI i)), some (.int (iI (pl_c σ (sX xs (i + 1)) (sX xs (i + 2)) (sX xs (i + 3)) (sX xs (i + 4))))), none]) dL_law_529 (Nat.le_of_ble_eq_true rfl) rfl ?_
  rw [f_or_comm hd2]
  have hd3 := f_or_apart hd2
  refine v_aload_n F (pc := 531) dL_law_531 rfl ?_
  refine v_aload_n F (pc := 532) dL_law_532 rfl ?_
  refine v_iload F (pc := 533) dL_law_533 rfl ?_
  refine v_iconst F (pc := 535) dL_law_535 ?_
  refine v_iadd F (pc := 536) (a := i) (b := 1) dL_law_536 ?_
  refine v_sld F (pc := 537) hXs hbl hbA (z := i + 1) (by omega) hL dL_law_537 ?_
  refine v_aload_n F (pc := 538) dL_law_538 rfl ?_
  refine v_iload F (pc := 539) dL_law_539 rfl ?_
  refine v_iconst F (pc := 541) dL_law_541 ?_
  refine v_iadd F (pc := 542) (a := i) (b := 2) dL_law_542 ?_
  refine v_sld F (pc := 543) hXs hbl hbA (z := i + 2) (by omega) hL dL_law_543 ?_
  refine v_aload_n F (pc := 544) dL_law_544 rfl ?_
  refine v_iload F (pc := 545) dL_law_545 rfl ?_
  refine v_iconst F (pc := 547) dL_law_547 ?_
  refine v_iadd F (pc := 548) (a := i) (b := 3) dL_law_548 ?_
  refine v_sld F (pc := 549) hXs hbl hbA (z := i + 3) (by omega) hL dL_law_549 ?_
  refine v_aload_n F (pc := 550) dL_law_550 rfl ?_
  refine v_iload F (pc := 551) dL_law_551 rfl ?_
  refine v_iconst F (pc := 553) dL_law_553 ?_
  refine v_iadd F (pc := 554) (a := i) (b := 4) dL_law_554 ?_
  refine v_sld F (pc := 555) hXs hbl hbA (z := i + 4) (by omega) hL dL_law_555 ?_
  refine v_callV F (pc := 556) (As := [.int (iI (sX xs (i + 1))), .int (iI (sX xs (i + 2))), .int (iI (sX xs (i + 3))), .int (iI (sX xs (i + 4)))]) (rest := []) ci_L_118 ct_X5_place cs_X5_place (CM.frame (k := f_or h2 (fO g o v2)) (k_X5_place l g hP hB (sX xs (i + 1)) (sX xs (i + 2)) (sX xs (i + 3)) (sX xs (i + 4)) (sX_rng xs (i + 1)) (sX_rng xs (i + 2)) (sX_rng xs (i + 3)) (sX_rng xs (i + 4)) hgv) hd3) dL_law_556 (k0 := 8) rfl rfl (f_or_l (mh_0 hP)) rfl rfl (Nat.le_of_ble_eq_true rfl) (Nat.le_of_ble_eq_true rfl) (Nat.le_of_ble_eq_true rfl) (by show cells + 6 ≤ 601024; omega) (by show slots + 181 ≤ 7293034; omega) (fun v1 h1 hp => ?_) (fun E h1 hp => by obtain ⟨_, z, _⟩ := hp; exact z.elim)
  obtain ⟨h9, ⟨rfl, rfl⟩, rfl, hd4⟩ := hp
  have hB2 := SX.mb hX2
  refine v_istore F (pc := 559) (lo' := [some (.ref b), some (.ref x), some (.ref (P 0)), some (.ref o), some (.int (iI i)), some (.int (iI (pl_c σ (sX xs (i + 1)) (sX xs (i + 2)) (sX xs (i + 3)) (sX xs (i + 4))))), some (.int (iI (pl_a σ (sX xs (i + 1)) (sX xs (i + 2)) (sX xs (i + 3)) (sX xs (i + 4)))))]) dL_law_559 (Nat.le_of_ble_eq_true rfl) rfl ?_
  refine v_aload_n F (pc := 561) dL_law_561 rfl ?_
  refine v_callV F (pc := 562) (As := []) (rest := []) ci_L_93 ct_X5_thrown cs_X5_thrown (CM.frame (k := f_or h2 (fO g o v2)) (k_X5_thrown l g hP hB2) hd4) dL_law_562 (k0 := 8) rfl rfl (f_or_l (mh_0 hP)) rfl rfl (Nat.le_of_ble_eq_true rfl) (Nat.le_of_ble_eq_true rfl) (Nat.le_of_ble_eq_true rfl) (by show cells + 6 ≤ 601024; omega) (by show slots + 181 ≤ 7293034; omega) (fun v1 h1 hp => ?_) (fun E h1 hp => by obtain ⟨_, z, _⟩ := hp; exact z.elim)
  obtain ⟨h9, ⟨rfl, rfl⟩, rfl, hd5⟩ := hp
  have h0c : (pl_s σ (sX xs (i + 1)) (sX xs (i + 2)) (sX xs (i + 3)) (sX xs (i + 4))) 0 0 = pl_c σ (sX xs (i + 1)) (sX xs (i + 2)) (sX xs (i + 3)) (sX xs (i + 4)) := t0_place σ (sX xs (i + 1)) (sX xs (i + 2)) (sX xs (i + 3)) (sX xs (i + 4))
  rw [h0c]
  have hcr : 0 ≤ pl_c σ (sX xs (i + 1)) (sX xs (i + 2)) (sX xs (i + 3)) (sX xs (i + 4)) ∧ pl_c σ (sX xs (i + 1)) (sX xs (i + 2)) (sX xs (i + 3)) (sX xs (i + 4)) ≤ 3 := by rw [← h0c]; exact hB2 0 0 (by decide) (by decide)
  refine v_iload F (pc := 565) dL_law_565 rfl ?_
  refine v_eqS F (pc := 567) 572 dL_law_567 (by decide) ?_
  have fin : V p l e room_1 s m args below meth c Q 7 g A (f_or (mheap g P (pl_s σ (sX xs (i + 1)) (sX xs (i + 2)) (sX xs (i + 3)) (sX xs (i + 4)))) (f_or h2 (fO g o v2))) (cells + 6) (slots + 181) 1621 [some (.ref b), some (.ref x), some (.ref (P 0)), some (.ref o), some (.int (iI i)), some (.int (iI (pl_c σ (sX xs (i + 1)) (sX xs (i + 2)) (sX xs (i + 3)) (sX xs (i + 4))))), some (.int (iI (pl_a σ (sX xs (i + 1)) (sX xs (i + 2)) (sX xs (i + 3)) (sX xs (i + 4)))))] [] := by rw [f_or_comm hd5]; exact V.fg (kk h2 v2 hX2 ho2 (f_or_apart hd5)) ⟨rfl, rfl, rfl, rfl, rfl, trivial⟩
  refine v_iload F (pc := 572) dL_law_572 rfl ?_
  refine v_if_ne F (pc := 574) (a := pl_c σ (sX xs (i + 1)) (sX xs (i + 2)) (sX xs (i + 3)) (sX xs (i + 4))) 589 dL_law_574 (by decide) (by omega) (fun c_1 => ?_) (fun c_1 => ?_)
  · exact v_goto F (pc := 589) 1621 dL_law_589 (by decide) fin
  · have hv := hv2 c_1
    refine v_aload_n F (pc := 577) dL_law_577 rfl ?_
    refine v_iconst F (pc := 578) dL_law_578 ?_
    refine v_lald F (pc := 579) (v := v2) (((f_or_r (hd5 o (by rw [f_or_r ho2, fO_s]; exact fun z => by cases z))).trans (f_or_r ho2)).trans fO_s) dL_law_579 ?_
    refine v_iload F (pc := 580) dL_law_580 rfl ?_
    refine v_i2l9 F (pc := 582) dL_law_582 ?_
    refine v_lcmpE F (pc := 583) hv dL_law_583 ?_
    exact v_if_eq F (pc := 584) (a := 0) 589 dL_law_584 (by decide) (by decide) (fun _ => v_goto F (pc := 589) 1621 dL_law_589 (by decide) fin) (fun z => absurd rfl z)
set_option maxRecDepth 100000 in
theorem LC_takeOut {p : Program} {l : Launch} {e : Env} {s : State} {m : MethodId} {args : Array Value} {below : List Frame} {meth : Method} {c : Code} {Q : State → Prop} {g : gT} {A : Nat → Prop} (F : Fx p l s m args meth c cL_law 7 ret RL g A) (hN : NC s) {b L : Nat} {xs : Nat → Int32} (hXs : va_X b L xs s s.heap) (hbl : b < s.heap.size) (hbA : ¬ A b) (hL : L ≤ 2560) {x o : Nat} {P : Nat → Nat} {hC : fH} {v0 : Int64} {σ : sT} {i : Int} (hi : 0 ≤ i ∧ i + 5 ≤ L) (hP : mok P) (hX : SX g x hC σ) (ho : hC o = none) (hd : ∀ a, mheap g P σ a ≠ none → f_or hC (fO g o v0) a = none) (hgv : σ 18 0 < 1000000) {cells slots : Nat} (hc : cells + 60 ≤ 601024) (hs : slots + 9000 ≤ 7293034) (kk : ∀ (h2 : fH) (v2 : Int64), SX g x h2 (tO_s σ (sX xs (i + 1))) → h2 o = none → (∀ a, mheap g P (tO_s σ (sX xs (i + 1))) a ≠ none → f_or h2 (fO g o v2) a = none) → V p l e room_1 s m args below meth c Q 7 g A (f_or (f_or h2 (fO g o v2)) (mheap g P (tO_s σ (sX xs (i + 1))))) (cells + 1) (slots + 6) 1621 [some (.ref b), some (.ref x), some (.ref (P 0)), some (.ref o), some (.int (iI i)), none, none] []) : V p l e room_1 s m args below meth c Q 7 g A (f_or (f_or hC (fO g o v0)) (mheap g P σ)) cells slots 592 [some (.ref b), some (.ref x), some (.ref (P 0)), some (.ref o), some (.int (iI i)), none, none] [] := by
  have hB := SX.mb hX
  have hdO : ∀ a, fO g o v0 a ≠ none → hC a = none := fun a ha => by rw [fO_n ha]; exact ho
  refine v_aload_n F (pc := 592) dL_law_592 rfl ?_
  refine v_aload_n F (pc := 593) dL_law_593 rfl ?_
  refine v_iload F (pc := 594) dL_law_594 rfl ?_
  refine v_iconst F (pc := 596) dL_law_596 ?_
  refine v_iadd F (pc := 597) (a := i) (b := 1) dL_law_597 ?_
  refine v_sld F (pc := 598) hXs hbl hbA (z := i + 1) (by omega) hL dL_law_598 ?_
  refine v_aload_n F (pc := 599) dL_law_599 rfl ?_
  refine v_callW F (pc := 600) (n := 3) (As := [.ref x, .int (iI (sX xs (i + 1))), .ref o]) (rest := []) lm_takeOut lx_L lc_takeOut ⟨by decide, by decide, by decide +kernel⟩ ls_takeOut (CMW.frame (k := mheap g P σ) (KL_takeOut l g hX ho v0 (sX xs (i + 1)) (sX_rng xs (i + 1))) hd) hN dL_law_600 rfl rfl (Nat.le_of_ble_eq_true rfl) (Nat.le_of_ble_eq_true rfl) (Nat.le_of_ble_eq_true rfl) (by show cells + 1 ≤ 601024; omega) (by show slots + 6 ≤ 7293034; omega) (fun v1 h1 hp => ?_)
  obtain ⟨h9, ⟨h2, v2, rfl, rfl, ho2, hX2, hv2⟩, rfl, hd2⟩ := hp
  refine v_istore F (pc := 603) (lo' := [some (.ref b), some (.ref x), some (.ref (P 0)), some (.ref o), some (.int (iI i)), some (.int (iI (fnd_c σ (sX xs (i + 1))))), none]) dL_law_603 (Nat.le_of_ble_eq_true rfl) rfl ?_
  rw [f_or_comm hd2]
  have hd3 := f_or_apart hd2
  refine v_aload_n F (pc := 605) dL_law_605 rfl ?_
  refine v_aload_n F (pc := 606) dL_law_606 rfl ?_
  refine v_iload F (pc := 607) dL_law_607 rfl ?_
  refine v_iconst F (pc := 609) dL_law_609 ?_
  refine v_iadd F (pc := 610) (a := i) (b := 1) dL_law_610 ?_
  refine v_sld F (pc := 611) hXs hbl hbA (z := i + 1) (by omega) hL dL_law_611 ?_
  refine v_callV F (pc := 612) (As := [.int (iI (sX xs (i + 1)))]) (rest := []) ci_L_121 ct_X5_takeOut cs_X5_takeOut (CM.frame (k := f_or h2 (fO g o v2)) (k_X5_takeOut l g hP hB (sX xs (i + 1)) (sX_rng xs (i + 1))) hd3) dL_law_612 (k0 := 8) rfl rfl (f_or_l (mh_0 hP)) rfl rfl (Nat.le_of_ble_eq_true rfl) (Nat.le_of_ble_eq_true rfl) (Nat.le_of_ble_eq_true rfl) (by show cells + 1 ≤ 601024; omega) (by show slots + 6 ≤ 7293034; omega) (fun v1 h1 hp => ?_) (fun E h1 hp => by obtain ⟨_, z, _⟩ := hp; exact z.elim)
  obtain ⟨h9, ⟨rfl, rfl⟩, rfl, hd4⟩ := hp
  have hB2 := SX.mb hX2
  refine v_istore F (pc := 615) (lo' := [some (.ref b), some (.ref x), some (.ref (P 0)), some (.ref o), some (.int (iI i)), some (.int (iI (fnd_c σ (sX xs (i + 1))))), some (.int (iI (tO_a σ (sX xs (i + 1)))))]) dL_law_615 (Nat.le_of_ble_eq_true rfl) rfl ?_
  refine v_aload_n F (pc := 617) dL_law_617 rfl ?_
  refine v_callV F (pc := 618) (As := []) (rest := []) ci_L_93 ct_X5_thrown cs_X5_thrown (CM.frame (k := f_or h2 (fO g o v2)) (k_X5_thrown l g hP hB2) hd4) dL_law_618 (k0 := 8) rfl rfl (f_or_l (mh_0 hP)) rfl rfl (Nat.le_of_ble_eq_true rfl) (Nat.le_of_ble_eq_true rfl) (Nat.le_of_ble_eq_true rfl) (by show cells + 1 ≤ 601024; omega) (by show slots + 6 ≤ 7293034; omega) (fun v1 h1 hp => ?_) (fun E h1 hp => by obtain ⟨_, z, _⟩ := hp; exact z.elim)
  obtain ⟨h9, ⟨rfl, rfl⟩, rfl, hd5⟩ := hp
  have h0c : (tO_s σ (sX xs (i + 1))) 0 0 = fnd_c σ (sX xs (i + 1)) := t0_takeOut σ (sX xs (i + 1))
  rw [h0c]
  have hcr : 0 ≤ fnd_c σ (sX xs (i + 1)) ∧ fnd_c σ (sX xs (i + 1)) ≤ 3 := by rw [← h0c]; exact hB2 0 0 (by decide) (by decide)
  refine v_iload F (pc := 621) dL_law_621 rfl ?_
  refine v_eqS F (pc := 623) 628 dL_law_623 (by decide) ?_
  have fin : V p l e room_1 s m args below meth c Q 7 g A (f_or (mheap g P (tO_s σ (sX xs (i + 1)))) (f_or h2 (fO g o v2))) (cells + 1) (slots + 6) 1621 [some (.ref b), some (.ref x), some (.ref (P 0)), some (.ref o), some (.int (iI i)), some (.int (iI (fnd_c σ (sX xs (i + 1))))), some (.int (iI (tO_a σ (sX xs (i + 1)))))] [] := by rw [f_or_comm hd5]; exact V.fg (kk h2 v2 hX2 ho2 (f_or_apart hd5)) ⟨rfl, rfl, rfl, rfl, rfl, trivial⟩
  refine v_iload F (pc := 628) dL_law_628 rfl ?_
  refine v_if_ne F (pc := 630) (a := fnd_c σ (sX xs (i + 1))) 645 dL_law_630 (by decide) (by omega) (fun c_1 => ?_) (fun c_1 => ?_)
  · exact v_goto F (pc := 645) 1621 dL_law_645 (by decide) fin
  · have hv := hv2 c_1
    refine v_aload_n F (pc := 633) dL_law_633 rfl ?_
    refine v_iconst F (pc := 634) dL_law_634 ?_
    refine v_lald F (pc := 635) (v := v2) (((f_or_r (hd5 o (by rw [f_or_r ho2, fO_s]; exact fun z => by cases z))).trans (f_or_r ho2)).trans fO_s) dL_law_635 ?_
    refine v_iload F (pc := 636) dL_law_636 rfl ?_
    refine v_i2l9 F (pc := 638) dL_law_638 ?_
    refine v_lcmpE F (pc := 639) hv dL_law_639 ?_
    exact v_if_eq F (pc := 640) (a := 0) 645 dL_law_640 (by decide) (by decide) (fun _ => v_goto F (pc := 645) 1621 dL_law_645 (by decide) fin) (fun z => absurd rfl z)
set_option maxRecDepth 100000 in
theorem LC_cord {p : Program} {l : Launch} {e : Env} {s : State} {m : MethodId} {args : Array Value} {below : List Frame} {meth : Method} {c : Code} {Q : State → Prop} {g : gT} {A : Nat → Prop} (F : Fx p l s m args meth c cL_law 7 ret RL g A) (hN : NC s) {b L : Nat} {xs : Nat → Int32} (hXs : va_X b L xs s s.heap) (hbl : b < s.heap.size) (hbA : ¬ A b) (hL : L ≤ 2560) {x o : Nat} {P : Nat → Nat} {hC : fH} {v0 : Int64} {σ : sT} {i : Int} (hi : 0 ≤ i ∧ i + 5 ≤ L) (hP : mok P) (hX : SX g x hC σ) (ho : hC o = none) (hd : ∀ a, mheap g P σ a ≠ none → f_or hC (fO g o v0) a = none) (hgv : σ 18 0 < 1000000) {cells slots : Nat} (hc : cells + 60 ≤ 601024) (hs : slots + 9000 ≤ 7293034) (kk : ∀ (h2 : fH) (v2 : Int64), SX g x h2 (cd_s σ (sX xs (i + 1)) (sX xs (i + 2))) → h2 o = none → (∀ a, mheap g P (cd_s σ (sX xs (i + 1)) (sX xs (i + 2))) a ≠ none → f_or h2 (fO g o v2) a = none) → V p l e room_1 s m args below meth c Q 7 g A (f_or (f_or h2 (fO g o v2)) (mheap g P (cd_s σ (sX xs (i + 1)) (sX xs (i + 2))))) (cells + 3) (slots + 18) 1621 [some (.ref b), some (.ref x), some (.ref (P 0)), some (.ref o), some (.int (iI i)), none, none] []) : V p l e room_1 s m args below meth c Q 7 g A (f_or (f_or hC (fO g o v0)) (mheap g P σ)) cells slots 648 [some (.ref b), some (.ref x), some (.ref (P 0)), some (.ref o), some (.int (iI i)), none, none] [] := by
  have hB := SX.mb hX
  have hdO : ∀ a, fO g o v0 a ≠ none → hC a = none := fun a ha => by rw [fO_n ha]; exact ho
  have hrk := SX.rk hX
  refine v_aload_n F (pc := 648) dL_law_648 rfl ?_
  refine v_aload_n F (pc := 649) dL_law_649 rfl ?_
  refine v_iload F (pc := 650) dL_law_650 rfl ?_
  refine v_iconst F (pc := 652) dL_law_652 ?_
  refine v_iadd F (pc := 653) (a := i) (b := 1) dL_law_653 ?_
  refine v_sld F (pc := 654) hXs hbl hbA (z := i + 1) (by omega) hL dL_law_654 ?_
  refine v_aload_n F (pc := 655) dL_law_655 rfl ?_
  refine v_iload F (pc := 656) dL_law_656 rfl ?_
  refine v_iconst F (pc := 658) dL_law_658 ?_
  refine v_iadd F (pc := 659) (a := i) (b := 2) dL_law_659 ?_
  refine v_sld F (pc := 660) hXs hbl hbA (z := i + 2) (by omega) hL dL_law_660 ?_
  refine v_aload_n F (pc := 661) dL_law_661 rfl ?_
  refine v_callW F (pc := 662) (n := 4) (As := [.ref x, .int (iI (sX xs (i + 1))), .int (iI (sX xs (i + 2))), .ref o]) (rest := []) lm_cord lx_L lc_cord ⟨by decide, by decide, by decide +kernel⟩ ls_cord (CMW.frame (k := mheap g P σ) (KL_cord l g hX ho v0 (sX xs (i + 1)) (sX xs (i + 2)) (sX_rng xs (i + 1)) (sX_rng xs (i + 2))) hd) hN dL_law_662 rfl rfl (Nat.le_of_ble_eq_true rfl) (Nat.le_of_ble_eq_true rfl) (Nat.le_of_ble_eq_true rfl) (by show cells + 3 ≤ 601024; omega) (by show slots + 18 ≤ 7293034; omega) (fun v1 h1 hp => ?_)
  obtain ⟨h9, ⟨h2, v2, rfl, rfl, ho2, hX2, hv2⟩, rfl, hd2⟩ := hp
  refine v_istore F (pc := 665) (lo' := [some (.ref b), some (.ref x), some (.ref (P 0)), some (.ref o), some (.int (iI i)), some (.int (iI (cd_c σ (sX xs (i + 1)) (sX xs (i + 2))))), none]) dL_law_665 (Nat.le_of_ble_eq_true rfl) rfl ?_
  rw [f_or_comm hd2]
  have hd3 := f_or_apart hd2
  refine v_aload_n F (pc := 667) dL_law_667 rfl ?_
  refine v_aload_n F (pc := 668) dL_law_668 rfl ?_
  refine v_iload F (pc := 669) dL_law_669 rfl ?_
  refine v_iconst F (pc := 671) dL_law_671 ?_
  refine v_iadd F (pc := 672) (a := i) (b := 1) dL_law_672 ?_
  refine v_sld F (pc := 673) hXs hbl hbA (z := i + 1) (by omega) hL dL_law_673 ?_
  refine v_aload_n F (pc := 674) dL_law_674 rfl ?_
  refine v_iload F (pc := 675) dL_law_675 rfl ?_
  refine v_iconst F (pc := 677) dL_law_677 ?_
  refine v_iadd F (pc := 678) (a := i) (b := 2) dL_law_678 ?_
  refine v_sld F (pc := 679) hXs hbl hbA (z := i + 2) (by omega) hL dL_law_679 ?_
  refine v_callV F (pc := 680) (As := [.int (iI (sX xs (i + 1))), .int (iI (sX xs (i + 2)))]) (rest := []) ci_L_124 ct_X5_cord cs_X5_cord (CM.frame (k := f_or h2 (fO g o v2)) (k_X5_cord l g hP hB (sX xs (i + 1)) (sX xs (i + 2)) (sX_rng xs (i + 1)) (sX_rng xs (i + 2)) hrk) hd3) dL_law_680 (k0 := 8) rfl rfl (f_or_l (mh_0 hP)) rfl rfl (Nat.le_of_ble_eq_true rfl) (Nat.le_of_ble_eq_true rfl) (Nat.le_of_ble_eq_true rfl) (by show cells + 3 ≤ 601024; omega) (by show slots + 18 ≤ 7293034; omega) (fun v1 h1 hp => ?_) (fun E h1 hp => by obtain ⟨_, z, _⟩ := hp; exact z.elim)
  obtain ⟨h9, ⟨rfl, rfl⟩, rfl, hd4⟩ := hp
  have hB2 := SX.mb hX2
  refine v_istore F (pc := 683) (lo' := [some (.ref b), some (.ref x), some (.ref (P 0)), some (.ref o), some (.int (iI i)), some (.int (iI (cd_c σ (sX xs (i + 1)) (sX xs (i + 2))))), some (.int (iI (cd_a σ (sX xs (i + 1)) (sX xs (i + 2)))))]) dL_law_683 (Nat.le_of_ble_eq_true rfl) rfl ?_
  refine v_aload_n F (pc := 685) dL_law_685 rfl ?_
  refine v_callV F (pc := 686) (As := []) (rest := []) ci_L_93 ct_X5_thrown cs_X5_thrown (CM.frame (k := f_or h2 (fO g o v2)) (k_X5_thrown l g hP hB2) hd4) dL_law_686 (k0 := 8) rfl rfl (f_or_l (mh_0 hP)) rfl rfl (Nat.le_of_ble_eq_true rfl) (Nat.le_of_ble_eq_true rfl) (Nat.le_of_ble_eq_true rfl) (by show cells + 3 ≤ 601024; omega) (by show slots + 18 ≤ 7293034; omega) (fun v1 h1 hp => ?_) (fun E h1 hp => by obtain ⟨_, z, _⟩ := hp; exact z.elim)
  obtain ⟨h9, ⟨rfl, rfl⟩, rfl, hd5⟩ := hp
  have h0c : (cd_s σ (sX xs (i + 1)) (sX xs (i + 2))) 0 0 = cd_c σ (sX xs (i + 1)) (sX xs (i + 2)) := t0_cord σ (sX xs (i + 1)) (sX xs (i + 2))
  rw [h0c]
  have hcr : 0 ≤ cd_c σ (sX xs (i + 1)) (sX xs (i + 2)) ∧ cd_c σ (sX xs (i + 1)) (sX xs (i + 2)) ≤ 3 := by rw [← h0c]; exact hB2 0 0 (by decide) (by decide)
  refine v_iload F (pc := 689) dL_law_689 rfl ?_
  refine v_eqS F (pc := 691) 696 dL_law_691 (by decide) ?_
  have fin : V p l e room_1 s m args below meth c Q 7 g A (f_or (mheap g P (cd_s σ (sX xs (i + 1)) (sX xs (i + 2)))) (f_or h2 (fO g o v2))) (cells + 3) (slots + 18) 1621 [some (.ref b), some (.ref x), some (.ref (P 0)), some (.ref o), some (.int (iI i)), some (.int (iI (cd_c σ (sX xs (i + 1)) (sX xs (i + 2))))), some (.int (iI (cd_a σ (sX xs (i + 1)) (sX xs (i + 2)))))] [] := by rw [f_or_comm hd5]; exact V.fg (kk h2 v2 hX2 ho2 (f_or_apart hd5)) ⟨rfl, rfl, rfl, rfl, rfl, trivial⟩
  refine v_iload F (pc := 696) dL_law_696 rfl ?_
  refine v_if_ne F (pc := 698) (a := cd_c σ (sX xs (i + 1)) (sX xs (i + 2))) 713 dL_law_698 (by decide) (by omega) (fun c_1 => ?_) (fun c_1 => ?_)
  · exact v_goto F (pc := 713) 1621 dL_law_713 (by decide) fin
  · have hv := hv2 c_1
    refine v_aload_n F (pc := 701) dL_law_701 rfl ?_
    refine v_iconst F (pc := 702) dL_law_702 ?_
    refine v_lald F (pc := 703) (v := v2) (((f_or_r (hd5 o (by rw [f_or_r ho2, fO_s]; exact fun z => by cases z))).trans (f_or_r ho2)).trans fO_s) dL_law_703 ?_
    refine v_iload F (pc := 704) dL_law_704 rfl ?_
    refine v_i2l9 F (pc := 706) dL_law_706 ?_
    refine v_lcmpE F (pc := 707) hv dL_law_707 ?_
    exact v_if_eq F (pc := 708) (a := 0) 713 dL_law_708 (by decide) (by decide) (fun _ => v_goto F (pc := 713) 1621 dL_law_713 (by decide) fin) (fun z => absurd rfl z)
set_option maxRecDepth 100000 in
theorem LC_pack {p : Program} {l : Launch} {e : Env} {s : State} {m : MethodId} {args : Array Value} {below : List Frame} {meth : Method} {c : Code} {Q : State → Prop} {g : gT} {A : Nat → Prop} (F : Fx p l s m args meth c cL_law 7 ret RL g A) (hN : NC s) {b L : Nat} {xs : Nat → Int32} (hXs : va_X b L xs s s.heap) (hbl : b < s.heap.size) (hbA : ¬ A b) (hL : L ≤ 2560) {x o : Nat} {P : Nat → Nat} {hC : fH} {v0 : Int64} {σ : sT} {i : Int} (hi : 0 ≤ i ∧ i + 5 ≤ L) (hP : mok P) (hX : SX g x hC σ) (ho : hC o = none) (hd : ∀ a, mheap g P σ a ≠ none → f_or hC (fO g o v0) a = none) (hgv : σ 18 0 < 1000000) {cells slots : Nat} (hc : cells + 60 ≤ 601024) (hs : slots + 9000 ≤ 7293034) (kk : ∀ (h2 : fH) (v2 : Int64), SX g x h2 (pk_s σ) → h2 o = none → (∀ a, mheap g P (pk_s σ) a ≠ none → f_or h2 (fO g o v2) a = none) → V p l e room_1 s m args below meth c Q 7 g A (f_or (f_or h2 (fO g o v2)) (mheap g P (pk_s σ))) (cells + 60) (slots + 9000) 1621 [some (.ref b), some (.ref x), some (.ref (P 0)), some (.ref o), some (.int (iI i)), none, none] []) : V p l e room_1 s m args below meth c Q 7 g A (f_or (f_or hC (fO g o v0)) (mheap g P σ)) cells slots 716 [some (.ref b), some (.ref x), some (.ref (P 0)), some (.ref o), some (.int (iI i)), none, none] [] := by
  have hB := SX.mb hX
  have hdO : ∀ a, fO g o v0 a ≠ none → hC a = none := fun a ha => by rw [fO_n ha]; exact ho
  refine v_aload_n F (pc := 716) dL_law_716 rfl ?_
  obtain ⟨fs, hfs⟩ := SX.obj hX
  refine v_callV F (pc := 717) (As := []) (rest := []) ci_L_125 ct_X4_pack cs_X4_pack (CM.frame (k := mheap g P σ) (CM.frame (k := fO g o v0) (J_pack l g hX) hdO) hd) dL_law_717 (k0 := 7) rfl rfl (f_or_l (f_or_l hfs)) rfl rfl (Nat.le_of_ble_eq_true rfl) (Nat.le_of_ble_eq_true rfl) (Nat.le_of_ble_eq_true rfl) (by show cells + 60 ≤ 601024; omega) (by show slots + 9000 ≤ 7293034; omega) (fun v1 h1 hp => ?_) (fun E h1 hp => by obtain ⟨_, ⟨_, z, _⟩, _⟩ := hp; exact z.elim)
  obtain ⟨h9, ⟨h2, ⟨_, rfl, hX2⟩, rfl, hd1⟩, rfl, hd2⟩ := hp
  have ho2 : h2 o = none := hd1 o (by rw [fO_s]; exact fun z => by cases z)
  rw [f_or_comm hd2]
  have hd3 := f_or_apart hd2
  refine v_aload_n F (pc := 720) dL_law_720 rfl ?_
  refine v_callV F (pc := 721) (As := []) (rest := [.int (iI (pk_a σ))]) ci_L_128 ct_X5_pack cs_X5_pack (CM.frame (k := f_or h2 (fO g o v0)) (k_X5_pack l g hP hB) hd3) dL_law_721 (k0 := 8) rfl rfl (f_or_l (mh_0 hP)) rfl rfl (Nat.le_of_ble_eq_true rfl) (Nat.le_of_ble_eq_true rfl) (Nat.le_of_ble_eq_true rfl) (by show cells + 60 ≤ 601024; omega) (by show slots + 9000 ≤ 7293034; omega) (fun v1 h1 hp => ?_) (fun E h1 hp => by obtain ⟨_, z, _⟩ := hp; exact z.elim)
  obtain ⟨h9, ⟨rfl, rfl⟩, rfl, hd5⟩ := hp
  exact v_eqS F (pc := 724) 1621 dL_law_724 (by decide) (by rw [f_or_comm hd5]; exact V.fg (kk h2 v0 hX2 ho2 (f_or_apart hd5)) ⟨rfl, rfl, rfl, rfl, rfl, trivial⟩)
set_option maxRecDepth 100000 in
theorem LC_machines {p : Program} {l : Launch} {e : Env} {s : State} {m : MethodId} {args : Array Value} {below : List Frame} {meth : Method} {c : Code} {Q : State → Prop} {g : gT} {A : Nat → Prop} (F : Fx p l s m args meth c cL_law 7 ret RL g A) (hN : NC s) {b L : Nat} {xs : Nat → Int32} (hXs : va_X b L xs s s.heap) (hbl : b < s.heap.size) (hbA : ¬ A b) (hL : L ≤ 2560) {x o : Nat} {P : Nat → Nat} {hC : fH} {v0 : Int64} {σ : sT} {i : Int} (hi : 0 ≤ i ∧ i + 5 ≤ L) (hP : mok P) (hX : SX g x hC σ) (ho : hC o = none) (hd : ∀ a, mheap g P σ a ≠ none → f_or hC (fO g o v0) a = none) (hgv : σ 18 0 < 1000000) {cells slots : Nat} (hc : cells + 60 ≤ 601024) (hs : slots + 9000 ≤ 7293034) (kk : ∀ (h2 : fH) (v2 : Int64), SX g x h2 (su σ 0 0 0) → h2 o = none → (∀ a, mheap g P (su σ 0 0 0) a ≠ none → f_or h2 (fO g o v2) a = none) → V p l e room_1 s m args below meth c Q 7 g A (f_or (f_or h2 (fO g o v2)) (mheap g P (su σ 0 0 0))) (cells + 0) (slots + 0) 1621 [some (.ref b), some (.ref x), some (.ref (P 0)), some (.ref o), some (.int (iI i)), none, none] []) : V p l e room_1 s m args below meth c Q 7 g A (f_or (f_or hC (fO g o v0)) (mheap g P σ)) cells slots 729 [some (.ref b), some (.ref x), some (.ref (P 0)), some (.ref o), some (.int (iI i)), none, none] [] := by
  have hB := SX.mb hX
  have hdO : ∀ a, fO g o v0 a ≠ none → hC a = none := fun a ha => by rw [fO_n ha]; exact ho
  refine v_aload_n F (pc := 729) dL_law_729 rfl ?_
  obtain ⟨fs, hfs⟩ := SX.obj hX
  refine v_callV F (pc := 730) (As := []) (rest := []) ci_L_129 ct_X4_machines cs_X4_machines (CM.frame (k := mheap g P σ) (CM.frame (k := fO g o v0) (J_machines l g hX) hdO) hd) dL_law_730 (k0 := 7) rfl rfl (f_or_l (f_or_l hfs)) rfl rfl (Nat.le_of_ble_eq_true rfl) (Nat.le_of_ble_eq_true rfl) (Nat.le_of_ble_eq_true rfl) (by show cells + 0 ≤ 601024; omega) (by show slots + 0 ≤ 7293034; omega) (fun v1 h1 hp => ?_) (fun E h1 hp => by obtain ⟨_, ⟨_, z, _⟩, _⟩ := hp; exact z.elim)
  obtain ⟨h9, ⟨h2, ⟨_, rfl, hX2⟩, rfl, hd1⟩, rfl, hd2⟩ := hp
  have ho2 : h2 o = none := hd1 o (by rw [fO_s]; exact fun z => by cases z)
  rw [f_or_comm hd2]
  have hd3 := f_or_apart hd2
  refine v_aload_n F (pc := 733) dL_law_733 rfl ?_
  refine v_callV F (pc := 734) (As := []) (rest := [.int (iI (σ 17 0))]) ci_L_132 ct_X5_machines cs_X5_machines (CM.frame (k := f_or h2 (fO g o v0)) (k_X5_machines l g hP hB) hd3) dL_law_734 (k0 := 8) rfl rfl (f_or_l (mh_0 hP)) rfl rfl (Nat.le_of_ble_eq_true rfl) (Nat.le_of_ble_eq_true rfl) (Nat.le_of_ble_eq_true rfl) (by show cells + 0 ≤ 601024; omega) (by show slots + 0 ≤ 7293034; omega) (fun v1 h1 hp => ?_) (fun E h1 hp => by obtain ⟨_, z, _⟩ := hp; exact z.elim)
  obtain ⟨h9, ⟨rfl, rfl⟩, rfl, hd5⟩ := hp
  exact v_eqS F (pc := 737) 1621 dL_law_737 (by decide) (by rw [f_or_comm hd5]; exact V.fg (kk h2 v0 hX2 ho2 (f_or_apart hd5)) ⟨rfl, rfl, rfl, rfl, rfl, trivial⟩)
set_option maxRecDepth 100000 in
theorem LC_rackOf {p : Program} {l : Launch} {e : Env} {s : State} {m : MethodId} {args : Array Value} {below : List Frame} {meth : Method} {c : Code} {Q : State → Prop} {g : gT} {A : Nat → Prop} (F : Fx p l s m args meth c cL_law 7 ret RL g A) (hN : NC s) {b L : Nat} {xs : Nat → Int32} (hXs : va_X b L xs s s.heap) (hbl : b < s.heap.size) (hbA : ¬ A b) (hL : L ≤ 2560) {x o : Nat} {P : Nat → Nat} {hC : fH} {v0 : Int64} {σ : sT} {i : Int} (hi : 0 ≤ i ∧ i + 5 ≤ L) (hP : mok P) (hX : SX g x hC σ) (ho : hC o = none) (hd : ∀ a, mheap g P σ a ≠ none → f_or hC (fO g o v0) a = none) (hgv : σ 18 0 < 1000000) {cells slots : Nat} (hc : cells + 60 ≤ 601024) (hs : slots + 9000 ≤ 7293034) (kk : ∀ (h2 : fH) (v2 : Int64), SX g x h2 (su σ 0 0 (fnd_c σ (sX xs (i + 1)))) → h2 o = none → (∀ a, mheap g P (su σ 0 0 (fnd_c σ (sX xs (i + 1)))) a ≠ none → f_or h2 (fO g o v2) a = none) → V p l e room_1 s m args below meth c Q 7 g A (f_or (f_or h2 (fO g o v2)) (mheap g P (su σ 0 0 (fnd_c σ (sX xs (i + 1)))))) (cells + 1) (slots + 6) 1621 [some (.ref b), some (.ref x), some (.ref (P 0)), some (.ref o), some (.int (iI i)), none, none] []) : V p l e room_1 s m args below meth c Q 7 g A (f_or (f_or hC (fO g o v0)) (mheap g P σ)) cells slots 742 [some (.ref b), some (.ref x), some (.ref (P 0)), some (.ref o), some (.int (iI i)), none, none] [] := by
  have hB := SX.mb hX
  have hdO : ∀ a, fO g o v0 a ≠ none → hC a = none := fun a ha => by rw [fO_n ha]; exact ho
  refine v_aload_n F (pc := 742) dL_law_742 rfl ?_
  refine v_aload_n F (pc := 743) dL_law_743 rfl ?_
  refine v_iload F (pc := 744) dL_law_744 rfl ?_
  refine v_iconst F (pc := 746) dL_law_746 ?_
  refine v_iadd F (pc := 747) (a := i) (b := 1) dL_law_747 ?_
  refine v_sld F (pc := 748) hXs hbl hbA (z := i + 1) (by omega) hL dL_law_748 ?_
  refine v_aload_n F (pc := 749) dL_law_749 rfl ?_
  refine v_callW F (pc := 750) (n := 3) (As := [.ref x, .int (iI (sX xs (i + 1))), .ref o]) (rest := []) lm_rackOf lx_L lc_rackOf ⟨by decide, by decide, by decide +kernel⟩ ls_rackOf (CMW.frame (k := mheap g P σ) (KL_rackOf l g hX ho v0 (sX xs (i + 1)) (sX_rng xs (i + 1))) hd) hN dL_law_750 rfl rfl (Nat.le_of_ble_eq_true rfl) (Nat.le_of_ble_eq_true rfl) (Nat.le_of_ble_eq_true rfl) (by show cells + 1 ≤ 601024; omega) (by show slots + 6 ≤ 7293034; omega) (fun v1 h1 hp => ?_)
  obtain ⟨h9, ⟨h2, v2, rfl, rfl, ho2, hX2, hv2⟩, rfl, hd2⟩ := hp
  refine v_istore F (pc := 753) (lo' := [some (.ref b), some (.ref x), some (.ref (P 0)), some (.ref o), some (.int (iI i)), some (.int (iI (fnd_c σ (sX xs (i + 1))))), none]) dL_law_753 (Nat.le_of_ble_eq_true rfl) rfl ?_
  rw [f_or_comm hd2]
  have hd3 := f_or_apart hd2
  refine v_aload_n F (pc := 755) dL_law_755 rfl ?_
  refine v_aload_n F (pc := 756) dL_law_756 rfl ?_
  refine v_iload F (pc := 757) dL_law_757 rfl ?_
  refine v_iconst F (pc := 759) dL_law_759 ?_
  refine v_iadd F (pc := 760) (a := i) (b := 1) dL_law_760 ?_
  refine v_sld F (pc := 761) hXs hbl hbA (z := i + 1) (by omega) hL dL_law_761 ?_
  refine v_callV F (pc := 762) (As := [.int (iI (sX xs (i + 1)))]) (rest := []) ci_L_135 ct_X5_rackOf cs_X5_rackOf (CM.frame (k := f_or h2 (fO g o v2)) (k_X5_rackOf l g hP hB (sX xs (i + 1)) (sX_rng xs (i + 1))) hd3) dL_law_762 (k0 := 8) rfl rfl (f_or_l (mh_0 hP)) rfl rfl (Nat.le_of_ble_eq_true rfl) (Nat.le_of_ble_eq_true rfl) (Nat.le_of_ble_eq_true rfl) (by show cells + 1 ≤ 601024; omega) (by show slots + 6 ≤ 7293034; omega) (fun v1 h1 hp => ?_) (fun E h1 hp => by obtain ⟨_, z, _⟩ := hp; exact z.elim)
  obtain ⟨h9, ⟨rfl, rfl⟩, rfl, hd4⟩ := hp
  have hB2 := SX.mb hX2
  refine v_istore F (pc := 765) (lo' := [some (.ref b), some (.ref x), some (.ref (P 0)), some (.ref o), some (.int (iI i)), some (.int (iI (fnd_c σ (sX xs (i + 1))))), some (.int (iI (if fnd_c σ (sX xs (i + 1)) = 0 then σ 15 (m_find σ (sX xs (i + 1))) else 0)))]) dL_law_765 (Nat.le_of_ble_eq_true rfl) rfl ?_
  refine v_aload_n F (pc := 767) dL_law_767 rfl ?_
  refine v_callV F (pc := 768) (As := []) (rest := []) ci_L_93 ct_X5_thrown cs_X5_thrown (CM.frame (k := f_or h2 (fO g o v2)) (k_X5_thrown l g hP hB2) hd4) dL_law_768 (k0 := 8) rfl rfl (f_or_l (mh_0 hP)) rfl rfl (Nat.le_of_ble_eq_true rfl) (Nat.le_of_ble_eq_true rfl) (Nat.le_of_ble_eq_true rfl) (by show cells + 1 ≤ 601024; omega) (by show slots + 6 ≤ 7293034; omega) (fun v1 h1 hp => ?_) (fun E h1 hp => by obtain ⟨_, z, _⟩ := hp; exact z.elim)
  obtain ⟨h9, ⟨rfl, rfl⟩, rfl, hd5⟩ := hp
  have h0c : (su σ 0 0 (fnd_c σ (sX xs (i + 1)))) 0 0 = fnd_c σ (sX xs (i + 1)) := t0_rackOf σ (sX xs (i + 1))
  rw [h0c]
  have hcr : 0 ≤ fnd_c σ (sX xs (i + 1)) ∧ fnd_c σ (sX xs (i + 1)) ≤ 3 := by rw [← h0c]; exact hB2 0 0 (by decide) (by decide)
  refine v_iload F (pc := 771) dL_law_771 rfl ?_
  refine v_eqS F (pc := 773) 778 dL_law_773 (by decide) ?_
  have fin : V p l e room_1 s m args below meth c Q 7 g A (f_or (mheap g P (su σ 0 0 (fnd_c σ (sX xs (i + 1))))) (f_or h2 (fO g o v2))) (cells + 1) (slots + 6) 1621 [some (.ref b), some (.ref x), some (.ref (P 0)), some (.ref o), some (.int (iI i)), some (.int (iI (fnd_c σ (sX xs (i + 1))))), some (.int (iI (if fnd_c σ (sX xs (i + 1)) = 0 then σ 15 (m_find σ (sX xs (i + 1))) else 0)))] [] := by rw [f_or_comm hd5]; exact V.fg (kk h2 v2 hX2 ho2 (f_or_apart hd5)) ⟨rfl, rfl, rfl, rfl, rfl, trivial⟩
  refine v_iload F (pc := 778) dL_law_778 rfl ?_
  refine v_if_ne F (pc := 780) (a := fnd_c σ (sX xs (i + 1))) 795 dL_law_780 (by decide) (by omega) (fun c_1 => ?_) (fun c_1 => ?_)
  · exact v_goto F (pc := 795) 1621 dL_law_795 (by decide) fin
  · have hv := hv2 c_1
    refine v_aload_n F (pc := 783) dL_law_783 rfl ?_
    refine v_iconst F (pc := 784) dL_law_784 ?_
    refine v_lald F (pc := 785) (v := v2) (((f_or_r (hd5 o (by rw [f_or_r ho2, fO_s]; exact fun z => by cases z))).trans (f_or_r ho2)).trans fO_s) dL_law_785 ?_
    refine v_iload F (pc := 786) dL_law_786 rfl ?_
    refine v_i2l9 F (pc := 788) dL_law_788 ?_
    refine v_lcmpE F (pc := 789) hv dL_law_789 ?_
    exact v_if_eq F (pc := 790) (a := 0) 795 dL_law_790 (by decide) (by decide) (fun _ => v_goto F (pc := 795) 1621 dL_law_795 (by decide) fin) (fun z => absurd rfl z)
set_option maxRecDepth 100000 in
theorem LC_slotOf {p : Program} {l : Launch} {e : Env} {s : State} {m : MethodId} {args : Array Value} {below : List Frame} {meth : Method} {c : Code} {Q : State → Prop} {g : gT} {A : Nat → Prop} (F : Fx p l s m args meth c cL_law 7 ret RL g A) (hN : NC s) {b L : Nat} {xs : Nat → Int32} (hXs : va_X b L xs s s.heap) (hbl : b < s.heap.size) (hbA : ¬ A b) (hL : L ≤ 2560) {x o : Nat} {P : Nat → Nat} {hC : fH} {v0 : Int64} {σ : sT} {i : Int} (hi : 0 ≤ i ∧ i + 5 ≤ L) (hP : mok P) (hX : SX g x hC σ) (ho : hC o = none) (hd : ∀ a, mheap g P σ a ≠ none → f_or hC (fO g o v0) a = none) (hgv : σ 18 0 < 1000000) {cells slots : Nat} (hc : cells + 60 ≤ 601024) (hs : slots + 9000 ≤ 7293034) (kk : ∀ (h2 : fH) (v2 : Int64), SX g x h2 (su σ 0 0 (fnd_c σ (sX xs (i + 1)))) → h2 o = none → (∀ a, mheap g P (su σ 0 0 (fnd_c σ (sX xs (i + 1)))) a ≠ none → f_or h2 (fO g o v2) a = none) → V p l e room_1 s m args below meth c Q 7 g A (f_or (f_or h2 (fO g o v2)) (mheap g P (su σ 0 0 (fnd_c σ (sX xs (i + 1)))))) (cells + 1) (slots + 6) 1621 [some (.ref b), some (.ref x), some (.ref (P 0)), some (.ref o), some (.int (iI i)), none, none] []) : V p l e room_1 s m args below meth c Q 7 g A (f_or (f_or hC (fO g o v0)) (mheap g P σ)) cells slots 798 [some (.ref b), some (.ref x), some (.ref (P 0)), some (.ref o), some (.int (iI i)), none, none] [] := by
  have hB := SX.mb hX
  have hdO : ∀ a, fO g o v0 a ≠ none → hC a = none := fun a ha => by rw [fO_n ha]; exact ho
  refine v_aload_n F (pc := 798) dL_law_798 rfl ?_
  refine v_aload_n F (pc := 799) dL_law_799 rfl ?_
  refine v_iload F (pc := 800) dL_law_800 rfl ?_
  refine v_iconst F (pc := 802) dL_law_802 ?_
  refine v_iadd F (pc := 803) (a := i) (b := 1) dL_law_803 ?_
  refine v_sld F (pc := 804) hXs hbl hbA (z := i + 1) (by omega) hL dL_law_804 ?_
  refine v_aload_n F (pc := 805) dL_law_805 rfl ?_
  refine v_callW F (pc := 806) (n := 3) (As := [.ref x, .int (iI (sX xs (i + 1))), .ref o]) (rest := []) lm_slotOf lx_L lc_slotOf ⟨by decide, by decide, by decide +kernel⟩ ls_slotOf (CMW.frame (k := mheap g P σ) (KL_slotOf l g hX ho v0 (sX xs (i + 1)) (sX_rng xs (i + 1))) hd) hN dL_law_806 rfl rfl (Nat.le_of_ble_eq_true rfl) (Nat.le_of_ble_eq_true rfl) (Nat.le_of_ble_eq_true rfl) (by show cells + 1 ≤ 601024; omega) (by show slots + 6 ≤ 7293034; omega) (fun v1 h1 hp => ?_)
  obtain ⟨h9, ⟨h2, v2, rfl, rfl, ho2, hX2, hv2⟩, rfl, hd2⟩ := hp
  refine v_istore F (pc := 809) (lo' := [some (.ref b), some (.ref x), some (.ref (P 0)), some (.ref o), some (.int (iI i)), some (.int (iI (fnd_c σ (sX xs (i + 1))))), none]) dL_law_809 (Nat.le_of_ble_eq_true rfl) rfl ?_
  rw [f_or_comm hd2]
  have hd3 := f_or_apart hd2
  refine v_aload_n F (pc := 811) dL_law_811 rfl ?_
  refine v_aload_n F (pc := 812) dL_law_812 rfl ?_
  refine v_iload F (pc := 813) dL_law_813 rfl ?_
  refine v_iconst F (pc := 815) dL_law_815 ?_
  refine v_iadd F (pc := 816) (a := i) (b := 1) dL_law_816 ?_
  refine v_sld F (pc := 817) hXs hbl hbA (z := i + 1) (by omega) hL dL_law_817 ?_
  refine v_callV F (pc := 818) (As := [.int (iI (sX xs (i + 1)))]) (rest := []) ci_L_138 ct_X5_slotOf cs_X5_slotOf (CM.frame (k := f_or h2 (fO g o v2)) (k_X5_slotOf l g hP hB (sX xs (i + 1)) (sX_rng xs (i + 1))) hd3) dL_law_818 (k0 := 8) rfl rfl (f_or_l (mh_0 hP)) rfl rfl (Nat.le_of_ble_eq_true rfl) (Nat.le_of_ble_eq_true rfl) (Nat.le_of_ble_eq_true rfl) (by show cells + 1 ≤ 601024; omega) (by show slots + 6 ≤ 7293034; omega) (fun v1 h1 hp => ?_) (fun E h1 hp => by obtain ⟨_, z, _⟩ := hp; exact z.elim)
  obtain ⟨h9, ⟨rfl, rfl⟩, rfl, hd4⟩ := hp
  have hB2 := SX.mb hX2
  refine v_istore F (pc := 821) (lo' := [some (.ref b), some (.ref x), some (.ref (P 0)), some (.ref o), some (.int (iI i)), some (.int (iI (fnd_c σ (sX xs (i + 1))))), some (.int (iI (if fnd_c σ (sX xs (i + 1)) = 0 then σ 16 (m_find σ (sX xs (i + 1))) else 0)))]) dL_law_821 (Nat.le_of_ble_eq_true rfl) rfl ?_
  refine v_aload_n F (pc := 823) dL_law_823 rfl ?_
  refine v_callV F (pc := 824) (As := []) (rest := []) ci_L_93 ct_X5_thrown cs_X5_thrown (CM.frame (k := f_or h2 (fO g o v2)) (k_X5_thrown l g hP hB2) hd4) dL_law_824 (k0 := 8) rfl rfl (f_or_l (mh_0 hP)) rfl rfl (Nat.le_of_ble_eq_true rfl) (Nat.le_of_ble_eq_true rfl) (Nat.le_of_ble_eq_true rfl) (by show cells + 1 ≤ 601024; omega) (by show slots + 6 ≤ 7293034; omega) (fun v1 h1 hp => ?_) (fun E h1 hp => by obtain ⟨_, z, _⟩ := hp; exact z.elim)
  obtain ⟨h9, ⟨rfl, rfl⟩, rfl, hd5⟩ := hp
  have h0c : (su σ 0 0 (fnd_c σ (sX xs (i + 1)))) 0 0 = fnd_c σ (sX xs (i + 1)) := t0_slotOf σ (sX xs (i + 1))
  rw [h0c]
  have hcr : 0 ≤ fnd_c σ (sX xs (i + 1)) ∧ fnd_c σ (sX xs (i + 1)) ≤ 3 := by rw [← h0c]; exact hB2 0 0 (by decide) (by decide)
  refine v_iload F (pc := 827) dL_law_827 rfl ?_
  refine v_eqS F (pc := 829) 834 dL_law_829 (by decide) ?_
  have fin : V p l e room_1 s m args below meth c Q 7 g A (f_or (mheap g P (su σ 0 0 (fnd_c σ (sX xs (i + 1))))) (f_or h2 (fO g o v2))) (cells + 1) (slots + 6) 1621 [some (.ref b), some (.ref x), some (.ref (P 0)), some (.ref o), some (.int (iI i)), some (.int (iI (fnd_c σ (sX xs (i + 1))))), some (.int (iI (if fnd_c σ (sX xs (i + 1)) = 0 then σ 16 (m_find σ (sX xs (i + 1))) else 0)))] [] := by rw [f_or_comm hd5]; exact V.fg (kk h2 v2 hX2 ho2 (f_or_apart hd5)) ⟨rfl, rfl, rfl, rfl, rfl, trivial⟩
  refine v_iload F (pc := 834) dL_law_834 rfl ?_
  refine v_if_ne F (pc := 836) (a := fnd_c σ (sX xs (i + 1))) 851 dL_law_836 (by decide) (by omega) (fun c_1 => ?_) (fun c_1 => ?_)
  · exact v_goto F (pc := 851) 1621 dL_law_851 (by decide) fin
  · have hv := hv2 c_1
    refine v_aload_n F (pc := 839) dL_law_839 rfl ?_
    refine v_iconst F (pc := 840) dL_law_840 ?_
    refine v_lald F (pc := 841) (v := v2) (((f_or_r (hd5 o (by rw [f_or_r ho2, fO_s]; exact fun z => by cases z))).trans (f_or_r ho2)).trans fO_s) dL_law_841 ?_
    refine v_iload F (pc := 842) dL_law_842 rfl ?_
    refine v_i2l9 F (pc := 844) dL_law_844 ?_
    refine v_lcmpE F (pc := 845) hv dL_law_845 ?_
    exact v_if_eq F (pc := 846) (a := 0) 851 dL_law_846 (by decide) (by decide) (fun _ => v_goto F (pc := 851) 1621 dL_law_851 (by decide) fin) (fun z => absurd rfl z)
set_option maxRecDepth 100000 in
theorem LC_isDark {p : Program} {l : Launch} {e : Env} {s : State} {m : MethodId} {args : Array Value} {below : List Frame} {meth : Method} {c : Code} {Q : State → Prop} {g : gT} {A : Nat → Prop} (F : Fx p l s m args meth c cL_law 7 ret RL g A) (hN : NC s) {b L : Nat} {xs : Nat → Int32} (hXs : va_X b L xs s s.heap) (hbl : b < s.heap.size) (hbA : ¬ A b) (hL : L ≤ 2560) {x o : Nat} {P : Nat → Nat} {hC : fH} {v0 : Int64} {σ : sT} {i : Int} (hi : 0 ≤ i ∧ i + 5 ≤ L) (hP : mok P) (hX : SX g x hC σ) (ho : hC o = none) (hd : ∀ a, mheap g P σ a ≠ none → f_or hC (fO g o v0) a = none) (hgv : σ 18 0 < 1000000) {cells slots : Nat} (hc : cells + 60 ≤ 601024) (hs : slots + 9000 ≤ 7293034) (kk : ∀ (h2 : fH) (v2 : Int64), SX g x h2 (su σ 0 0 (fnd_c σ (sX xs (i + 1)))) → h2 o = none → (∀ a, mheap g P (su σ 0 0 (fnd_c σ (sX xs (i + 1)))) a ≠ none → f_or h2 (fO g o v2) a = none) → V p l e room_1 s m args below meth c Q 7 g A (f_or (f_or h2 (fO g o v2)) (mheap g P (su σ 0 0 (fnd_c σ (sX xs (i + 1)))))) (cells + 1) (slots + 6) 1621 [some (.ref b), some (.ref x), some (.ref (P 0)), some (.ref o), some (.int (iI i)), none, none] []) : V p l e room_1 s m args below meth c Q 7 g A (f_or (f_or hC (fO g o v0)) (mheap g P σ)) cells slots 854 [some (.ref b), some (.ref x), some (.ref (P 0)), some (.ref o), some (.int (iI i)), none, none] [] := by
  have hB := SX.mb hX
  have hdO : ∀ a, fO g o v0 a ≠ none → hC a = none := fun a ha => by rw [fO_n ha]; exact ho
  refine v_aload_n F (pc := 854) dL_law_854 rfl ?_
  refine v_aload_n F (pc := 855) dL_law_855 rfl ?_
  refine v_iload F (pc := 856) dL_law_856 rfl ?_
  refine v_iconst F (pc := 858) dL_law_858 ?_
  refine v_iadd F (pc := 859) (a := i) (b := 1) dL_law_859 ?_
  refine v_sld F (pc := 860) hXs hbl hbA (z := i + 1) (by omega) hL dL_law_860 ?_
  refine v_aload_n F (pc := 861) dL_law_861 rfl ?_
  refine v_callW F (pc := 862) (n := 3) (As := [.ref x, .int (iI (sX xs (i + 1))), .ref o]) (rest := []) lm_isDark lx_L lc_isDark ⟨by decide, by decide, by decide +kernel⟩ ls_isDark (CMW.frame (k := mheap g P σ) (KL_isDark l g hX ho v0 (sX xs (i + 1)) (sX_rng xs (i + 1))) hd) hN dL_law_862 rfl rfl (Nat.le_of_ble_eq_true rfl) (Nat.le_of_ble_eq_true rfl) (Nat.le_of_ble_eq_true rfl) (by show cells + 1 ≤ 601024; omega) (by show slots + 6 ≤ 7293034; omega) (fun v1 h1 hp => ?_)
  obtain ⟨h9, ⟨h2, v2, rfl, rfl, ho2, hX2, hv2⟩, rfl, hd2⟩ := hp
  refine v_istore F (pc := 865) (lo' := [some (.ref b), some (.ref x), some (.ref (P 0)), some (.ref o), some (.int (iI i)), some (.int (iI (fnd_c σ (sX xs (i + 1))))), none]) dL_law_865 (Nat.le_of_ble_eq_true rfl) rfl ?_
  rw [f_or_comm hd2]
  have hd3 := f_or_apart hd2
  refine v_aload_n F (pc := 867) dL_law_867 rfl ?_
  refine v_aload_n F (pc := 868) dL_law_868 rfl ?_
  refine v_iload F (pc := 869) dL_law_869 rfl ?_
  refine v_iconst F (pc := 871) dL_law_871 ?_
  refine v_iadd F (pc := 872) (a := i) (b := 1) dL_law_872 ?_
  refine v_sld F (pc := 873) hXs hbl hbA (z := i + 1) (by omega) hL dL_law_873 ?_
  refine v_callV F (pc := 874) (As := [.int (iI (sX xs (i + 1)))]) (rest := []) ci_L_141 ct_X5_isDark cs_X5_isDark (CM.frame (k := f_or h2 (fO g o v2)) (k_X5_isDark l g hP hB (sX xs (i + 1)) (sX_rng xs (i + 1))) hd3) dL_law_874 (k0 := 8) rfl rfl (f_or_l (mh_0 hP)) rfl rfl (Nat.le_of_ble_eq_true rfl) (Nat.le_of_ble_eq_true rfl) (Nat.le_of_ble_eq_true rfl) (by show cells + 1 ≤ 601024; omega) (by show slots + 6 ≤ 7293034; omega) (fun v1 h1 hp => ?_) (fun E h1 hp => by obtain ⟨_, z, _⟩ := hp; exact z.elim)
  obtain ⟨h9, ⟨rfl, rfl⟩, rfl, hd4⟩ := hp
  have hB2 := SX.mb hX2
  refine v_istore F (pc := 877) (lo' := [some (.ref b), some (.ref x), some (.ref (P 0)), some (.ref o), some (.int (iI i)), some (.int (iI (fnd_c σ (sX xs (i + 1))))), some (.int (iI (bI (decide (fnd_c σ (sX xs (i + 1)) = 0) && m_dark σ (m_find σ (sX xs (i + 1)))))))]) dL_law_877 (Nat.le_of_ble_eq_true rfl) rfl ?_
  refine v_aload_n F (pc := 879) dL_law_879 rfl ?_
  refine v_callV F (pc := 880) (As := []) (rest := []) ci_L_93 ct_X5_thrown cs_X5_thrown (CM.frame (k := f_or h2 (fO g o v2)) (k_X5_thrown l g hP hB2) hd4) dL_law_880 (k0 := 8) rfl rfl (f_or_l (mh_0 hP)) rfl rfl (Nat.le_of_ble_eq_true rfl) (Nat.le_of_ble_eq_true rfl) (Nat.le_of_ble_eq_true rfl) (by show cells + 1 ≤ 601024; omega) (by show slots + 6 ≤ 7293034; omega) (fun v1 h1 hp => ?_) (fun E h1 hp => by obtain ⟨_, z, _⟩ := hp; exact z.elim)
  obtain ⟨h9, ⟨rfl, rfl⟩, rfl, hd5⟩ := hp
  have h0c : (su σ 0 0 (fnd_c σ (sX xs (i + 1)))) 0 0 = fnd_c σ (sX xs (i + 1)) := t0_isDark σ (sX xs (i + 1))
  rw [h0c]
  have hcr : 0 ≤ fnd_c σ (sX xs (i + 1)) ∧ fnd_c σ (sX xs (i + 1)) ≤ 3 := by rw [← h0c]; exact hB2 0 0 (by decide) (by decide)
  refine v_iload F (pc := 883) dL_law_883 rfl ?_
  refine v_eqS F (pc := 885) 890 dL_law_885 (by decide) ?_
  have fin : V p l e room_1 s m args below meth c Q 7 g A (f_or (mheap g P (su σ 0 0 (fnd_c σ (sX xs (i + 1))))) (f_or h2 (fO g o v2))) (cells + 1) (slots + 6) 1621 [some (.ref b), some (.ref x), some (.ref (P 0)), some (.ref o), some (.int (iI i)), some (.int (iI (fnd_c σ (sX xs (i + 1))))), some (.int (iI (bI (decide (fnd_c σ (sX xs (i + 1)) = 0) && m_dark σ (m_find σ (sX xs (i + 1)))))))] [] := by rw [f_or_comm hd5]; exact V.fg (kk h2 v2 hX2 ho2 (f_or_apart hd5)) ⟨rfl, rfl, rfl, rfl, rfl, trivial⟩
  refine v_iload F (pc := 890) dL_law_890 rfl ?_
  refine v_if_ne F (pc := 892) (a := fnd_c σ (sX xs (i + 1))) 914 dL_law_892 (by decide) (by omega) (fun c_1 => ?_) (fun c_1 => ?_)
  · exact v_goto F (pc := 914) 1621 dL_law_914 (by decide) fin
  · have hv := hv2 c_1
    refine v_aload_n F (pc := 895) dL_law_895 rfl ?_
    refine v_iconst F (pc := 896) dL_law_896 ?_
    refine v_lald F (pc := 897) (v := v2) (((f_or_r (hd5 o (by rw [f_or_r ho2, fO_s]; exact fun z => by cases z))).trans (f_or_r ho2)).trans fO_s) dL_law_897 ?_
    refine v_iload F (pc := 898) dL_law_898 rfl ?_
    refine v_if_eqB F (pc := 900) (b := decide (fnd_c σ (sX xs (i + 1)) = 0) && m_dark σ (m_find σ (sX xs (i + 1)))) 907 dL_law_900 (by decide) (fun c_2 => ?_) (fun c_2 => ?_)
    · refine v_lconst F (pc := 907) 0 rfl dL_law_907 ?_
      refine v_lcmpE F (pc := 908) (by rw [hv, c_2]; rfl) dL_law_908 ?_
      exact v_if_eq F (pc := 909) (a := 0) 914 dL_law_909 (by decide) (by decide) (fun _ => v_goto F (pc := 914) 1621 dL_law_914 (by decide) fin) (fun z => absurd rfl z)
    · refine v_lconst F (pc := 903) 1 rfl dL_law_903 ?_
      refine v_goto F (pc := 904) 908 dL_law_904 (by decide) ?_
      refine v_lcmpE F (pc := 908) (by rw [hv, c_2]; rfl) dL_law_908 ?_
      exact v_if_eq F (pc := 909) (a := 0) 914 dL_law_909 (by decide) (by decide) (fun _ => v_goto F (pc := 914) 1621 dL_law_914 (by decide) fin) (fun z => absurd rfl z)
set_option maxRecDepth 100000 in
theorem LC_machineAt {p : Program} {l : Launch} {e : Env} {s : State} {m : MethodId} {args : Array Value} {below : List Frame} {meth : Method} {c : Code} {Q : State → Prop} {g : gT} {A : Nat → Prop} (F : Fx p l s m args meth c cL_law 7 ret RL g A) (hN : NC s) {b L : Nat} {xs : Nat → Int32} (hXs : va_X b L xs s s.heap) (hbl : b < s.heap.size) (hbA : ¬ A b) (hL : L ≤ 2560) {x o : Nat} {P : Nat → Nat} {hC : fH} {v0 : Int64} {σ : sT} {i : Int} (hi : 0 ≤ i ∧ i + 5 ≤ L) (hP : mok P) (hX : SX g x hC σ) (ho : hC o = none) (hd : ∀ a, mheap g P σ a ≠ none → f_or hC (fO g o v0) a = none) (hgv : σ 18 0 < 1000000) {cells slots : Nat} (hc : cells + 60 ≤ 601024) (hs : slots + 9000 ≤ 7293034) (kk : ∀ (h2 : fH) (v2 : Int64), SX g x h2 (su σ 0 0 (c01 (mA_ok σ (sX xs (i + 1)) (sX xs (i + 2))))) → h2 o = none → (∀ a, mheap g P (su σ 0 0 (c01 (mA_ok σ (sX xs (i + 1)) (sX xs (i + 2))))) a ≠ none → f_or h2 (fO g o v2) a = none) → V p l e room_1 s m args below meth c Q 7 g A (f_or (f_or h2 (fO g o v2)) (mheap g P (su σ 0 0 (c01 (mA_ok σ (sX xs (i + 1)) (sX xs (i + 2))))))) (cells + 2) (slots + 12) 1621 [some (.ref b), some (.ref x), some (.ref (P 0)), some (.ref o), some (.int (iI i)), none, none] []) : V p l e room_1 s m args below meth c Q 7 g A (f_or (f_or hC (fO g o v0)) (mheap g P σ)) cells slots 917 [some (.ref b), some (.ref x), some (.ref (P 0)), some (.ref o), some (.int (iI i)), none, none] [] := by
  have hB := SX.mb hX
  have hdO : ∀ a, fO g o v0 a ≠ none → hC a = none := fun a ha => by rw [fO_n ha]; exact ho
  refine v_aload_n F (pc := 917) dL_law_917 rfl ?_
  refine v_aload_n F (pc := 918) dL_law_918 rfl ?_
  refine v_iload F (pc := 919) dL_law_919 rfl ?_
  refine v_iconst F (pc := 921) dL_law_921 ?_
  refine v_iadd F (pc := 922) (a := i) (b := 1) dL_law_922 ?_
  refine v_sld F (pc := 923) hXs hbl hbA (z := i + 1) (by omega) hL dL_law_923 ?_
  refine v_aload_n F (pc := 924) dL_law_924 rfl ?_
  refine v_iload F (pc := 925) dL_law_925 rfl ?_
  refine v_iconst F (pc := 927) dL_law_927 ?_
  refine v_iadd F (pc := 928) (a := i) (b := 2) dL_law_928 ?_
  refine v_sld F (pc := 929) hXs hbl hbA (z := i + 2) (by omega) hL dL_law_929 ?_
  refine v_aload_n F (pc := 930) dL_law_930 rfl ?_
  refine v_callW F (pc := 931) (n := 4) (As := [.ref x, .int (iI (sX xs (i + 1))), .int (iI (sX xs (i + 2))), .ref o]) (rest := []) lm_machineAt lx_L lc_machineAt ⟨by decide, by decide, by decide +kernel⟩ ls_machineAt (CMW.frame (k := mheap g P σ) (KL_machineAt l g hX ho v0 (sX xs (i + 1)) (sX xs (i + 2)) (sX_rng xs (i + 1)) (sX_rng xs (i + 2))) hd) hN dL_law_931 rfl rfl (Nat.le_of_ble_eq_true rfl) (Nat.le_of_ble_eq_true rfl) (Nat.le_of_ble_eq_true rfl) (by show cells + 2 ≤ 601024; omega) (by show slots + 12 ≤ 7293034; omega) (fun v1 h1 hp => ?_)
  obtain ⟨h9, ⟨h2, v2, rfl, rfl, ho2, hX2, hv2⟩, rfl, hd2⟩ := hp
  refine v_istore F (pc := 934) (lo' := [some (.ref b), some (.ref x), some (.ref (P 0)), some (.ref o), some (.int (iI i)), some (.int (iI (c01 (mA_ok σ (sX xs (i + 1)) (sX xs (i + 2)))))), none]) dL_law_934 (Nat.le_of_ble_eq_true rfl) rfl ?_
  rw [f_or_comm hd2]
  have hd3 := f_or_apart hd2
  refine v_aload_n F (pc := 936) dL_law_936 rfl ?_
  refine v_aload_n F (pc := 937) dL_law_937 rfl ?_
  refine v_iload F (pc := 938) dL_law_938 rfl ?_
  refine v_iconst F (pc := 940) dL_law_940 ?_
  refine v_iadd F (pc := 941) (a := i) (b := 1) dL_law_941 ?_
  refine v_sld F (pc := 942) hXs hbl hbA (z := i + 1) (by omega) hL dL_law_942 ?_
  refine v_aload_n F (pc := 943) dL_law_943 rfl ?_
  refine v_iload F (pc := 944) dL_law_944 rfl ?_
  refine v_iconst F (pc := 946) dL_law_946 ?_
  refine v_iadd F (pc := 947) (a := i) (b := 2) dL_law_947 ?_
  refine v_sld F (pc := 948) hXs hbl hbA (z := i + 2) (by omega) hL dL_law_948 ?_
  refine v_callV F (pc := 949) (As := [.int (iI (sX xs (i + 1))), .int (iI (sX xs (i + 2)))]) (rest := []) ci_L_144 ct_X5_machineAt cs_X5_machineAt (CM.frame (k := f_or h2 (fO g o v2)) (k_X5_machineAt l g hP hB (sX xs (i + 1)) (sX xs (i + 2)) (sX_rng xs (i + 1)) (sX_rng xs (i + 2))) hd3) dL_law_949 (k0 := 8) rfl rfl (f_or_l (mh_0 hP)) rfl rfl (Nat.le_of_ble_eq_true rfl) (Nat.le_of_ble_eq_true rfl) (Nat.le_of_ble_eq_true rfl) (by show cells + 2 ≤ 601024; omega) (by show slots + 12 ≤ 7293034; omega) (fun v1 h1 hp => ?_) (fun E h1 hp => by obtain ⟨_, z, _⟩ := hp; exact z.elim)
  obtain ⟨h9, ⟨rfl, rfl⟩, rfl, hd4⟩ := hp
  have hB2 := SX.mb hX2
  refine v_istore F (pc := 952) (lo' := [some (.ref b), some (.ref x), some (.ref (P 0)), some (.ref o), some (.int (iI i)), some (.int (iI (c01 (mA_ok σ (sX xs (i + 1)) (sX xs (i + 2)))))), some (.int (iI (mA_a σ (sX xs (i + 1)) (sX xs (i + 2)))))]) dL_law_952 (Nat.le_of_ble_eq_true rfl) rfl ?_
  refine v_aload_n F (pc := 954) dL_law_954 rfl ?_
  refine v_callV F (pc := 955) (As := []) (rest := []) ci_L_93 ct_X5_thrown cs_X5_thrown (CM.frame (k := f_or h2 (fO g o v2)) (k_X5_thrown l g hP hB2) hd4) dL_law_955 (k0 := 8) rfl rfl (f_or_l (mh_0 hP)) rfl rfl (Nat.le_of_ble_eq_true rfl) (Nat.le_of_ble_eq_true rfl) (Nat.le_of_ble_eq_true rfl) (by show cells + 2 ≤ 601024; omega) (by show slots + 12 ≤ 7293034; omega) (fun v1 h1 hp => ?_) (fun E h1 hp => by obtain ⟨_, z, _⟩ := hp; exact z.elim)
  obtain ⟨h9, ⟨rfl, rfl⟩, rfl, hd5⟩ := hp
  have h0c : (su σ 0 0 (c01 (mA_ok σ (sX xs (i + 1)) (sX xs (i + 2))))) 0 0 = c01 (mA_ok σ (sX xs (i + 1)) (sX xs (i + 2))) := t0_machineAt σ (sX xs (i + 1)) (sX xs (i + 2))
  rw [h0c]
  have hcr : 0 ≤ c01 (mA_ok σ (sX xs (i + 1)) (sX xs (i + 2))) ∧ c01 (mA_ok σ (sX xs (i + 1)) (sX xs (i + 2))) ≤ 3 := by rw [← h0c]; exact hB2 0 0 (by decide) (by decide)
  refine v_iload F (pc := 958) dL_law_958 rfl ?_
  refine v_eqS F (pc := 960) 965 dL_law_960 (by decide) ?_
  have fin : V p l e room_1 s m args below meth c Q 7 g A (f_or (mheap g P (su σ 0 0 (c01 (mA_ok σ (sX xs (i + 1)) (sX xs (i + 2)))))) (f_or h2 (fO g o v2))) (cells + 2) (slots + 12) 1621 [some (.ref b), some (.ref x), some (.ref (P 0)), some (.ref o), some (.int (iI i)), some (.int (iI (c01 (mA_ok σ (sX xs (i + 1)) (sX xs (i + 2)))))), some (.int (iI (mA_a σ (sX xs (i + 1)) (sX xs (i + 2)))))] [] := by rw [f_or_comm hd5]; exact V.fg (kk h2 v2 hX2 ho2 (f_or_apart hd5)) ⟨rfl, rfl, rfl, rfl, rfl, trivial⟩
  refine v_iload F (pc := 965) dL_law_965 rfl ?_
  refine v_if_ne F (pc := 967) (a := c01 (mA_ok σ (sX xs (i + 1)) (sX xs (i + 2)))) 982 dL_law_967 (by decide) (by omega) (fun c_1 => ?_) (fun c_1 => ?_)
  · exact v_goto F (pc := 982) 1621 dL_law_982 (by decide) fin
  · have hv := hv2 c_1
    refine v_aload_n F (pc := 970) dL_law_970 rfl ?_
    refine v_iconst F (pc := 971) dL_law_971 ?_
    refine v_lald F (pc := 972) (v := v2) (((f_or_r (hd5 o (by rw [f_or_r ho2, fO_s]; exact fun z => by cases z))).trans (f_or_r ho2)).trans fO_s) dL_law_972 ?_
    refine v_iload F (pc := 973) dL_law_973 rfl ?_
    refine v_i2l9 F (pc := 975) dL_law_975 ?_
    refine v_lcmpE F (pc := 976) hv dL_law_976 ?_
    exact v_if_eq F (pc := 977) (a := 0) 982 dL_law_977 (by decide) (by decide) (fun _ => v_goto F (pc := 982) 1621 dL_law_982 (by decide) fin) (fun z => absurd rfl z)
set_option maxRecDepth 100000 in
theorem LC_next {p : Program} {l : Launch} {e : Env} {s : State} {m : MethodId} {args : Array Value} {below : List Frame} {meth : Method} {c : Code} {Q : State → Prop} {g : gT} {A : Nat → Prop} (F : Fx p l s m args meth c cL_law 7 ret RL g A) (hN : NC s) {b L : Nat} {xs : Nat → Int32} (hXs : va_X b L xs s s.heap) (hbl : b < s.heap.size) (hbA : ¬ A b) (hL : L ≤ 2560) {x o : Nat} {P : Nat → Nat} {hC : fH} {v0 : Int64} {σ : sT} {i : Int} (hi : 0 ≤ i ∧ i + 5 ≤ L) (hP : mok P) (hX : SX g x hC σ) (ho : hC o = none) (hd : ∀ a, mheap g P σ a ≠ none → f_or hC (fO g o v0) a = none) (hgv : σ 18 0 < 1000000) {cells slots : Nat} (hc : cells + 60 ≤ 601024) (hs : slots + 9000 ≤ 7293034) (kk : ∀ (h2 : fH) (v2 : Int64), SX g x h2 (su σ 0 0 (nx_c σ (sX xs (i + 1)))) → h2 o = none → (∀ a, mheap g P (su σ 0 0 (nx_c σ (sX xs (i + 1)))) a ≠ none → f_or h2 (fO g o v2) a = none) → V p l e room_1 s m args below meth c Q 7 g A (f_or (f_or h2 (fO g o v2)) (mheap g P (su σ 0 0 (nx_c σ (sX xs (i + 1)))))) (cells + 1) (slots + 6) 1621 [some (.ref b), some (.ref x), some (.ref (P 0)), some (.ref o), some (.int (iI i)), none, none] []) : V p l e room_1 s m args below meth c Q 7 g A (f_or (f_or hC (fO g o v0)) (mheap g P σ)) cells slots 985 [some (.ref b), some (.ref x), some (.ref (P 0)), some (.ref o), some (.int (iI i)), none, none] [] := by
  have hB := SX.mb hX
  have hdO : ∀ a, fO g o v0 a ≠ none → hC a = none := fun a ha => by rw [fO_n ha]; exact ho
  refine v_aload_n F (pc := 985) dL_law_985 rfl ?_
  refine v_aload_n F (pc := 986) dL_law_986 rfl ?_
  refine v_iload F (pc := 987) dL_law_987 rfl ?_
  refine v_iconst F (pc := 989) dL_law_989 ?_
  refine v_iadd F (pc := 990) (a := i) (b := 1) dL_law_990 ?_
  refine v_sld F (pc := 991) hXs hbl hbA (z := i + 1) (by omega) hL dL_law_991 ?_
  refine v_aload_n F (pc := 992) dL_law_992 rfl ?_
  refine v_callW F (pc := 993) (n := 3) (As := [.ref x, .int (iI (sX xs (i + 1))), .ref o]) (rest := []) lm_next lx_L lc_next ⟨by decide, by decide, by decide +kernel⟩ ls_next (CMW.frame (k := mheap g P σ) (KL_next l g hX ho v0 (sX xs (i + 1)) (sX_rng xs (i + 1))) hd) hN dL_law_993 rfl rfl (Nat.le_of_ble_eq_true rfl) (Nat.le_of_ble_eq_true rfl) (Nat.le_of_ble_eq_true rfl) (by show cells + 1 ≤ 601024; omega) (by show slots + 6 ≤ 7293034; omega) (fun v1 h1 hp => ?_)
  obtain ⟨h9, ⟨h2, v2, rfl, rfl, ho2, hX2, hv2⟩, rfl, hd2⟩ := hp
  refine v_istore F (pc := 996) (lo' := [some (.ref b), some (.ref x), some (.ref (P 0)), some (.ref o), some (.int (iI i)), some (.int (iI (nx_c σ (sX xs (i + 1))))), none]) dL_law_996 (Nat.le_of_ble_eq_true rfl) rfl ?_
  rw [f_or_comm hd2]
  have hd3 := f_or_apart hd2
  refine v_aload_n F (pc := 998) dL_law_998 rfl ?_
  refine v_aload_n F (pc := 999) dL_law_999 rfl ?_
  refine v_iload F (pc := 1000) dL_law_1000 rfl ?_
  refine v_iconst F (pc := 1002) dL_law_1002 ?_
  refine v_iadd F (pc := 1003) (a := i) (b := 1) dL_law_1003 ?_
  refine v_sld F (pc := 1004) hXs hbl hbA (z := i + 1) (by omega) hL dL_law_1004 ?_
  refine v_callV F (pc := 1005) (As := [.int (iI (sX xs (i + 1)))]) (rest := []) ci_L_147 ct_X5_next cs_X5_next (CM.frame (k := f_or h2 (fO g o v2)) (k_X5_next l g hP hB (sX xs (i + 1)) (sX_rng xs (i + 1))) hd3) dL_law_1005 (k0 := 8) rfl rfl (f_or_l (mh_0 hP)) rfl rfl (Nat.le_of_ble_eq_true rfl) (Nat.le_of_ble_eq_true rfl) (Nat.le_of_ble_eq_true rfl) (by show cells + 1 ≤ 601024; omega) (by show slots + 6 ≤ 7293034; omega) (fun v1 h1 hp => ?_) (fun E h1 hp => by obtain ⟨_, z, _⟩ := hp; exact z.elim)
  obtain ⟨h9, ⟨rfl, rfl⟩, rfl, hd4⟩ := hp
  have hB2 := SX.mb hX2
  refine v_istore F (pc := 1008) (lo' := [some (.ref b), some (.ref x), some (.ref (P 0)), some (.ref o), some (.int (iI i)), some (.int (iI (nx_c σ (sX xs (i + 1))))), some (.int (iI (nx_a σ (sX xs (i + 1)))))]) dL_law_1008 (Nat.le_of_ble_eq_true rfl) rfl ?_
  refine v_aload_n F (pc := 1010) dL_law_1010 rfl ?_
  refine v_callV F (pc := 1011) (As := []) (rest := []) ci_L_93 ct_X5_thrown cs_X5_thrown (CM.frame (k := f_or h2 (fO g o v2)) (k_X5_thrown l g hP hB2) hd4) dL_law_1011 (k0 := 8) rfl rfl (f_or_l (mh_0 hP)) rfl rfl (Nat.le_of_ble_eq_true rfl) (Nat.le_of_ble_eq_true rfl) (Nat.le_of_ble_eq_true rfl) (by show cells + 1 ≤ 601024; omega) (by show slots + 6 ≤ 7293034; omega) (fun v1 h1 hp => ?_) (fun E h1 hp => by obtain ⟨_, z, _⟩ := hp; exact z.elim)
  obtain ⟨h9, ⟨rfl, rfl⟩, rfl, hd5⟩ := hp
  have h0c : (su σ 0 0 (nx_c σ (sX xs (i + 1)))) 0 0 = nx_c σ (sX xs (i + 1)) := t0_next σ (sX xs (i + 1))
  rw [h0c]
  have hcr : 0 ≤ nx_c σ (sX xs (i + 1)) ∧ nx_c σ (sX xs (i + 1)) ≤ 3 := by rw [← h0c]; exact hB2 0 0 (by decide) (by decide)
  refine v_iload F (pc := 1014) dL_law_1014 rfl ?_
  refine v_eqS F (pc := 1016) 1021 dL_law_1016 (by decide) ?_
  have fin : V p l e room_1 s m args below meth c Q 7 g A (f_or (mheap g P (su σ 0 0 (nx_c σ (sX xs (i + 1))))) (f_or h2 (fO g o v2))) (cells + 1) (slots + 6) 1621 [some (.ref b), some (.ref x), some (.ref (P 0)), some (.ref o), some (.int (iI i)), some (.int (iI (nx_c σ (sX xs (i + 1))))), some (.int (iI (nx_a σ (sX xs (i + 1)))))] [] := by rw [f_or_comm hd5]; exact V.fg (kk h2 v2 hX2 ho2 (f_or_apart hd5)) ⟨rfl, rfl, rfl, rfl, rfl, trivial⟩
  refine v_iload F (pc := 1021) dL_law_1021 rfl ?_
  refine v_if_ne F (pc := 1023) (a := nx_c σ (sX xs (i + 1))) 1038 dL_law_1023 (by decide) (by omega) (fun c_1 => ?_) (fun c_1 => ?_)
  · exact v_goto F (pc := 1038) 1621 dL_law_1038 (by decide) fin
  · have hv := hv2 c_1
    refine v_aload_n F (pc := 1026) dL_law_1026 rfl ?_
    refine v_iconst F (pc := 1027) dL_law_1027 ?_
    refine v_lald F (pc := 1028) (v := v2) (((f_or_r (hd5 o (by rw [f_or_r ho2, fO_s]; exact fun z => by cases z))).trans (f_or_r ho2)).trans fO_s) dL_law_1028 ?_
    refine v_iload F (pc := 1029) dL_law_1029 rfl ?_
    refine v_i2l9 F (pc := 1031) dL_law_1031 ?_
    refine v_lcmpE F (pc := 1032) hv dL_law_1032 ?_
    exact v_if_eq F (pc := 1033) (a := 0) 1038 dL_law_1033 (by decide) (by decide) (fun _ => v_goto F (pc := 1038) 1621 dL_law_1038 (by decide) fin) (fun z => absurd rfl z)
set_option maxRecDepth 100000 in
theorem LC_powerOf {p : Program} {l : Launch} {e : Env} {s : State} {m : MethodId} {args : Array Value} {below : List Frame} {meth : Method} {c : Code} {Q : State → Prop} {g : gT} {A : Nat → Prop} (F : Fx p l s m args meth c cL_law 7 ret RL g A) (hN : NC s) {b L : Nat} {xs : Nat → Int32} (hXs : va_X b L xs s s.heap) (hbl : b < s.heap.size) (hbA : ¬ A b) (hL : L ≤ 2560) {x o : Nat} {P : Nat → Nat} {hC : fH} {v0 : Int64} {σ : sT} {i : Int} (hi : 0 ≤ i ∧ i + 5 ≤ L) (hP : mok P) (hX : SX g x hC σ) (ho : hC o = none) (hd : ∀ a, mheap g P σ a ≠ none → f_or hC (fO g o v0) a = none) (hgv : σ 18 0 < 1000000) {cells slots : Nat} (hc : cells + 60 ≤ 601024) (hs : slots + 9000 ≤ 7293034) (kk : ∀ (h2 : fH) (v2 : Int64), SX g x h2 (su σ 0 0 (rf_c σ (sX xs (i + 1)) (sX xs (i + 2)))) → h2 o = none → (∀ a, mheap g P (su σ 0 0 (rf_c σ (sX xs (i + 1)) (sX xs (i + 2)))) a ≠ none → f_or h2 (fO g o v2) a = none) → V p l e room_1 s m args below meth c Q 7 g A (f_or (f_or h2 (fO g o v2)) (mheap g P (su σ 0 0 (rf_c σ (sX xs (i + 1)) (sX xs (i + 2)))))) (cells + 2) (slots + 12) 1621 [some (.ref b), some (.ref x), some (.ref (P 0)), some (.ref o), some (.int (iI i)), none, none] []) : V p l e room_1 s m args below meth c Q 7 g A (f_or (f_or hC (fO g o v0)) (mheap g P σ)) cells slots 1041 [some (.ref b), some (.ref x), some (.ref (P 0)), some (.ref o), some (.int (iI i)), none, none] [] := by
  have hB := SX.mb hX
  have hdO : ∀ a, fO g o v0 a ≠ none → hC a = none := fun a ha => by rw [fO_n ha]; exact ho
  refine v_aload_n F (pc := 1041) dL_law_1041 rfl ?_
  refine v_aload_n F (pc := 1042) dL_law_1042 rfl ?_
  refine v_iload F (pc := 1043) dL_law_1043 rfl ?_
  refine v_iconst F (pc := 1045) dL_law_1045 ?_
  refine v_iadd F (pc := 1046) (a := i) (b := 1) dL_law_1046 ?_
  refine v_sld F (pc := 1047) hXs hbl hbA (z := i + 1) (by omega) hL dL_law_1047 ?_
  refine v_aload_n F (pc := 1048) dL_law_1048 rfl ?_
  refine v_iload F (pc := 1049) dL_law_1049 rfl ?_
  refine v_iconst F (pc := 1051) dL_law_1051 ?_
  refine v_iadd F (pc := 1052) (a := i) (b := 2) dL_law_1052 ?_
  refine v_sld F (pc := 1053) hXs hbl hbA (z := i + 2) (by omega) hL dL_law_1053 ?_
  refine v_aload_n F (pc := 1054) dL_law_1054 rfl ?_
  refine v_callW F (pc := 1055) (n := 4) (As := [.ref x, .int (iI (sX xs (i + 1))), .int (iI (sX xs (i + 2))), .ref o]) (rest := []) lm_powerOf lx_L lc_powerOf ⟨by decide, by decide, by decide +kernel⟩ ls_powerOf (CMW.frame (k := mheap g P σ) (KL_powerOf l g hX ho v0 (sX xs (i + 1)) (sX xs (i + 2)) (sX_rng xs (i + 1)) (sX_rng xs (i + 2))) hd) hN dL_law_1055 rfl rfl (Nat.le_of_ble_eq_true rfl) (Nat.le_of_ble_eq_true rfl) (Nat.le_of_ble_eq_true rfl) (by show cells + 2 ≤ 601024; omega) (by show slots + 12 ≤ 7293034; omega) (fun v1 h1 hp => ?_)
  obtain ⟨h9, ⟨h2, v2, rfl, rfl, ho2, hX2, hv2⟩, rfl, hd2⟩ := hp
  refine v_istore F (pc := 1058) (lo' := [some (.ref b), some (.ref x), some (.ref (P 0)), some (.ref o), some (.int (iI i)), some (.int (iI (rf_c σ (sX xs (i + 1)) (sX xs (i + 2))))), none]) dL_law_1058 (Nat.le_of_ble_eq_true rfl) rfl ?_
  rw [f_or_comm hd2]
  have hd3 := f_or_apart hd2
  refine v_aload_n F (pc := 1060) dL_law_1060 rfl ?_
  refine v_aload_n F (pc := 1061) dL_law_1061 rfl ?_
  refine v_iload F (pc := 1062) dL_law_1062 rfl ?_
  refine v_iconst F (pc := 1064) dL_law_1064 ?_
  refine v_iadd F (pc := 1065) (a := i) (b := 1) dL_law_1065 ?_
  refine v_sld F (pc := 1066) hXs hbl hbA (z := i + 1) (by omega) hL dL_law_1066 ?_
  refine v_aload_n F (pc := 1067) dL_law_1067 rfl ?_
  refine v_iload F (pc := 1068) dL_law_1068 rfl ?_
  refine v_iconst F (pc := 1070) dL_law_1070 ?_
  refine v_iadd F (pc := 1071) (a := i) (b := 2) dL_law_1071 ?_
  refine v_sld F (pc := 1072) hXs hbl hbA (z := i + 2) (by omega) hL dL_law_1072 ?_
  refine v_callV F (pc := 1073) (As := [.int (iI (sX xs (i + 1))), .int (iI (sX xs (i + 2)))]) (rest := []) ci_L_150 ct_X5_powerOf cs_X5_powerOf (CM.frame (k := f_or h2 (fO g o v2)) (k_X5_powerOf l g hP hB (sX xs (i + 1)) (sX xs (i + 2)) (sX_rng xs (i + 1)) (sX_rng xs (i + 2))) hd3) dL_law_1073 (k0 := 8) rfl rfl (f_or_l (mh_0 hP)) rfl rfl (Nat.le_of_ble_eq_true rfl) (Nat.le_of_ble_eq_true rfl) (Nat.le_of_ble_eq_true rfl) (by show cells + 2 ≤ 601024; omega) (by show slots + 12 ≤ 7293034; omega) (fun v1 h1 hp => ?_) (fun E h1 hp => by obtain ⟨_, z, _⟩ := hp; exact z.elim)
  obtain ⟨h9, ⟨rfl, rfl⟩, rfl, hd4⟩ := hp
  have hB2 := SX.mb hX2
  refine v_istore F (pc := 1076) (lo' := [some (.ref b), some (.ref x), some (.ref (P 0)), some (.ref o), some (.int (iI i)), some (.int (iI (rf_c σ (sX xs (i + 1)) (sX xs (i + 2))))), some (.int (iI (pO_a σ (sX xs (i + 1)) (sX xs (i + 2)))))]) dL_law_1076 (Nat.le_of_ble_eq_true rfl) rfl ?_
  refine v_aload_n F (pc := 1078) dL_law_1078 rfl ?_
  refine v_callV F (pc := 1079) (As := []) (rest := []) ci_L_93 ct_X5_thrown cs_X5_thrown (CM.frame (k := f_or h2 (fO g o v2)) (k_X5_thrown l g hP hB2) hd4) dL_law_1079 (k0 := 8) rfl rfl (f_or_l (mh_0 hP)) rfl rfl (Nat.le_of_ble_eq_true rfl) (Nat.le_of_ble_eq_true rfl) (Nat.le_of_ble_eq_true rfl) (by show cells + 2 ≤ 601024; omega) (by show slots + 12 ≤ 7293034; omega) (fun v1 h1 hp => ?_) (fun E h1 hp => by obtain ⟨_, z, _⟩ := hp; exact z.elim)
  obtain ⟨h9, ⟨rfl, rfl⟩, rfl, hd5⟩ := hp
  have h0c : (su σ 0 0 (rf_c σ (sX xs (i + 1)) (sX xs (i + 2)))) 0 0 = rf_c σ (sX xs (i + 1)) (sX xs (i + 2)) := t0_powerOf σ (sX xs (i + 1)) (sX xs (i + 2))
  rw [h0c]
  have hcr : 0 ≤ rf_c σ (sX xs (i + 1)) (sX xs (i + 2)) ∧ rf_c σ (sX xs (i + 1)) (sX xs (i + 2)) ≤ 3 := by rw [← h0c]; exact hB2 0 0 (by decide) (by decide)
  refine v_iload F (pc := 1082) dL_law_1082 rfl ?_
  refine v_eqS F (pc := 1084) 1089 dL_law_1084 (by decide) ?_
  have fin : V p l e room_1 s m args below meth c Q 7 g A (f_or (mheap g P (su σ 0 0 (rf_c σ (sX xs (i + 1)) (sX xs (i + 2))))) (f_or h2 (fO g o v2))) (cells + 2) (slots + 12) 1621 [some (.ref b), some (.ref x), some (.ref (P 0)), some (.ref o), some (.int (iI i)), some (.int (iI (rf_c σ (sX xs (i + 1)) (sX xs (i + 2))))), some (.int (iI (pO_a σ (sX xs (i + 1)) (sX xs (i + 2)))))] [] := by rw [f_or_comm hd5]; exact V.fg (kk h2 v2 hX2 ho2 (f_or_apart hd5)) ⟨rfl, rfl, rfl, rfl, rfl, trivial⟩
  refine v_iload F (pc := 1089) dL_law_1089 rfl ?_
  refine v_if_ne F (pc := 1091) (a := rf_c σ (sX xs (i + 1)) (sX xs (i + 2))) 1106 dL_law_1091 (by decide) (by omega) (fun c_1 => ?_) (fun c_1 => ?_)
  · exact v_goto F (pc := 1106) 1621 dL_law_1106 (by decide) fin
  · have hv := hv2 c_1
    refine v_aload_n F (pc := 1094) dL_law_1094 rfl ?_
    refine v_iconst F (pc := 1095) dL_law_1095 ?_
    refine v_lald F (pc := 1096) (v := v2) (((f_or_r (hd5 o (by rw [f_or_r ho2, fO_s]; exact fun z => by cases z))).trans (f_or_r ho2)).trans fO_s) dL_law_1096 ?_
    refine v_iload F (pc := 1097) dL_law_1097 rfl ?_
    refine v_i2l9 F (pc := 1099) dL_law_1099 ?_
    refine v_lcmpE F (pc := 1100) hv dL_law_1100 ?_
    exact v_if_eq F (pc := 1101) (a := 0) 1106 dL_law_1101 (by decide) (by decide) (fun _ => v_goto F (pc := 1106) 1621 dL_law_1106 (by decide) fin) (fun z => absurd rfl z)
set_option maxRecDepth 100000 in
theorem LC_worstOf {p : Program} {l : Launch} {e : Env} {s : State} {m : MethodId} {args : Array Value} {below : List Frame} {meth : Method} {c : Code} {Q : State → Prop} {g : gT} {A : Nat → Prop} (F : Fx p l s m args meth c cL_law 7 ret RL g A) (hN : NC s) {b L : Nat} {xs : Nat → Int32} (hXs : va_X b L xs s s.heap) (hbl : b < s.heap.size) (hbA : ¬ A b) (hL : L ≤ 2560) {x o : Nat} {P : Nat → Nat} {hC : fH} {v0 : Int64} {σ : sT} {i : Int} (hi : 0 ≤ i ∧ i + 5 ≤ L) (hP : mok P) (hX : SX g x hC σ) (ho : hC o = none) (hd : ∀ a, mheap g P σ a ≠ none → f_or hC (fO g o v0) a = none) (hgv : σ 18 0 < 1000000) {cells slots : Nat} (hc : cells + 60 ≤ 601024) (hs : slots + 9000 ≤ 7293034) (kk : ∀ (h2 : fH) (v2 : Int64), SX g x h2 (su σ 0 0 (rf_c σ (sX xs (i + 1)) (sX xs (i + 2)))) → h2 o = none → (∀ a, mheap g P (su σ 0 0 (rf_c σ (sX xs (i + 1)) (sX xs (i + 2)))) a ≠ none → f_or h2 (fO g o v2) a = none) → V p l e room_1 s m args below meth c Q 7 g A (f_or (f_or h2 (fO g o v2)) (mheap g P (su σ 0 0 (rf_c σ (sX xs (i + 1)) (sX xs (i + 2)))))) (cells + 2) (slots + 12) 1621 [some (.ref b), some (.ref x), some (.ref (P 0)), some (.ref o), some (.int (iI i)), none, none] []) : V p l e room_1 s m args below meth c Q 7 g A (f_or (f_or hC (fO g o v0)) (mheap g P σ)) cells slots 1109 [some (.ref b), some (.ref x), some (.ref (P 0)), some (.ref o), some (.int (iI i)), none, none] [] := by
  have hB := SX.mb hX
  have hdO : ∀ a, fO g o v0 a ≠ none → hC a = none := fun a ha => by rw [fO_n ha]; exact ho
  refine v_aload_n F (pc := 1109) dL_law_1109 rfl ?_
  refine v_aload_n F (pc := 1110) dL_law_1110 rfl ?_
  refine v_iload F (pc := 1111) dL_law_1111 rfl ?_
  refine v_iconst F (pc := 1113) dL_law_1113 ?_
  refine v_iadd F (pc := 1114) (a := i) (b := 1) dL_law_1114 ?_
  refine v_sld F (pc := 1115) hXs hbl hbA (z := i + 1) (by omega) hL dL_law_1115 ?_
  refine v_aload_n F (pc := 1116) dL_law_1116 rfl ?_
  refine v_iload F (pc := 1117) dL_law_1117 rfl ?_
  refine v_iconst F (pc := 1119) dL_law_1119 ?_
  refine v_iadd F (pc := 1120) (a := i) (b := 2) dL_law_1120 ?_
  refine v_sld F (pc := 1121) hXs hbl hbA (z := i + 2) (by omega) hL dL_law_1121 ?_
  refine v_aload_n F (pc := 1122) dL_law_1122 rfl ?_
  refine v_callW F (pc := 1123) (n := 4) (As := [.ref x, .int (iI (sX xs (i + 1))), .int (iI (sX xs (i + 2))), .ref o]) (rest := []) lm_worstOf lx_L lc_worstOf ⟨by decide, by decide, by decide +kernel⟩ ls_worstOf (CMW.frame (k := mheap g P σ) (KL_worstOf l g hX ho v0 (sX xs (i + 1)) (sX xs (i + 2)) (sX_rng xs (i + 1)) (sX_rng xs (i + 2))) hd) hN dL_law_1123 rfl rfl (Nat.le_of_ble_eq_true rfl) (Nat.le_of_ble_eq_true rfl) (Nat.le_of_ble_eq_true rfl) (by show cells + 2 ≤ 601024; omega) (by show slots + 12 ≤ 7293034; omega) (fun v1 h1 hp => ?_)
  obtain ⟨h9, ⟨h2, v2, rfl, rfl, ho2, hX2, hv2⟩, rfl, hd2⟩ := hp
  refine v_istore F (pc := 1126) (lo' := [some (.ref b), some (.ref x), some (.ref (P 0)), some (.ref o), some (.int (iI i)), some (.int (iI (rf_c σ (sX xs (i + 1)) (sX xs (i + 2))))), none]) dL_law_1126 (Nat.le_of_ble_eq_true rfl) rfl ?_
  rw [f_or_comm hd2]
  have hd3 := f_or_apart hd2
  refine v_aload_n F (pc := 1128) dL_law_1128 rfl ?_
  refine v_aload_n F (pc := 1129) dL_law_1129 rfl ?_
  refine v_iload F (pc := 1130) dL_law_1130 rfl ?_
  refine v_iconst F (pc := 1132) dL_law_1132 ?_
  refine v_iadd F (pc := 1133) (a := i) (b := 1) dL_law_1133 ?_
  refine v_sld F (pc := 1134) hXs hbl hbA (z := i + 1) (by omega) hL dL_law_1134 ?_
  refine v_aload_n F (pc := 1135) dL_law_1135 rfl ?_
  refine v_iload F (pc := 1136) dL_law_1136 rfl ?_
  refine v_iconst F (pc := 1138) dL_law_1138 ?_
  refine v_iadd F (pc := 1139) (a := i) (b := 2) dL_law_1139 ?_
  refine v_sld F (pc := 1140) hXs hbl hbA (z := i + 2) (by omega) hL dL_law_1140 ?_
  refine v_callV F (pc := 1141) (As := [.int (iI (sX xs (i + 1))), .int (iI (sX xs (i + 2)))]) (rest := []) ci_L_153 ct_X5_worstOf cs_X5_worstOf (CM.frame (k := f_or h2 (fO g o v2)) (k_X5_worstOf l g hP hB (sX xs (i + 1)) (sX xs (i + 2)) (sX_rng xs (i + 1)) (sX_rng xs (i + 2))) hd3) dL_law_1141 (k0 := 8) rfl rfl (f_or_l (mh_0 hP)) rfl rfl (Nat.le_of_ble_eq_true rfl) (Nat.le_of_ble_eq_true rfl) (Nat.le_of_ble_eq_true rfl) (by show cells + 2 ≤ 601024; omega) (by show slots + 12 ≤ 7293034; omega) (fun v1 h1 hp => ?_) (fun E h1 hp => by obtain ⟨_, z, _⟩ := hp; exact z.elim)
  obtain ⟨h9, ⟨rfl, rfl⟩, rfl, hd4⟩ := hp
  have hB2 := SX.mb hX2
  refine v_istore F (pc := 1144) (lo' := [some (.ref b), some (.ref x), some (.ref (P 0)), some (.ref o), some (.int (iI i)), some (.int (iI (rf_c σ (sX xs (i + 1)) (sX xs (i + 2))))), some (.int (iI (if rf_c σ (sX xs (i + 1)) (sX xs (i + 2)) = 0 then m_worst σ (sX xs (i + 1)) (sX xs (i + 2)) else 0)))]) dL_law_1144 (Nat.le_of_ble_eq_true rfl) rfl ?_
  refine v_aload_n F (pc := 1146) dL_law_1146 rfl ?_
  refine v_callV F (pc := 1147) (As := []) (rest := []) ci_L_93 ct_X5_thrown cs_X5_thrown (CM.frame (k := f_or h2 (fO g o v2)) (k_X5_thrown l g hP hB2) hd4) dL_law_1147 (k0 := 8) rfl rfl (f_or_l (mh_0 hP)) rfl rfl (Nat.le_of_ble_eq_true rfl) (Nat.le_of_ble_eq_true rfl) (Nat.le_of_ble_eq_true rfl) (by show cells + 2 ≤ 601024; omega) (by show slots + 12 ≤ 7293034; omega) (fun v1 h1 hp => ?_) (fun E h1 hp => by obtain ⟨_, z, _⟩ := hp; exact z.elim)
  obtain ⟨h9, ⟨rfl, rfl⟩, rfl, hd5⟩ := hp
  have h0c : (su σ 0 0 (rf_c σ (sX xs (i + 1)) (sX xs (i + 2)))) 0 0 = rf_c σ (sX xs (i + 1)) (sX xs (i + 2)) := t0_worstOf σ (sX xs (i + 1)) (sX xs (i + 2))
  rw [h0c]
  have hcr : 0 ≤ rf_c σ (sX xs (i + 1)) (sX xs (i + 2)) ∧ rf_c σ (sX xs (i + 1)) (sX xs (i + 2)) ≤ 3 := by rw [← h0c]; exact hB2 0 0 (by decide) (by decide)
  refine v_iload F (pc := 1150) dL_law_1150 rfl ?_
  refine v_eqS F (pc := 1152) 1157 dL_law_1152 (by decide) ?_
  have fin : V p l e room_1 s m args below meth c Q 7 g A (f_or (mheap g P (su σ 0 0 (rf_c σ (sX xs (i + 1)) (sX xs (i + 2))))) (f_or h2 (fO g o v2))) (cells + 2) (slots + 12) 1621 [some (.ref b), some (.ref x), some (.ref (P 0)), some (.ref o), some (.int (iI i)), some (.int (iI (rf_c σ (sX xs (i + 1)) (sX xs (i + 2))))), some (.int (iI (if rf_c σ (sX xs (i + 1)) (sX xs (i + 2)) = 0 then m_worst σ (sX xs (i + 1)) (sX xs (i + 2)) else 0)))] [] := by rw [f_or_comm hd5]; exact V.fg (kk h2 v2 hX2 ho2 (f_or_apart hd5)) ⟨rfl, rfl, rfl, rfl, rfl, trivial⟩
  refine v_iload F (pc := 1157) dL_law_1157 rfl ?_
  refine v_if_ne F (pc := 1159) (a := rf_c σ (sX xs (i + 1)) (sX xs (i + 2))) 1174 dL_law_1159 (by decide) (by omega) (fun c_1 => ?_) (fun c_1 => ?_)
  · exact v_goto F (pc := 1174) 1621 dL_law_1174 (by decide) fin
  · have hv := hv2 c_1
    refine v_aload_n F (pc := 1162) dL_law_1162 rfl ?_
    refine v_iconst F (pc := 1163) dL_law_1163 ?_
    refine v_lald F (pc := 1164) (v := v2) (((f_or_r (hd5 o (by rw [f_or_r ho2, fO_s]; exact fun z => by cases z))).trans (f_or_r ho2)).trans fO_s) dL_law_1164 ?_
    refine v_iload F (pc := 1165) dL_law_1165 rfl ?_
    refine v_i2l9 F (pc := 1167) dL_law_1167 ?_
    refine v_lcmpE F (pc := 1168) hv dL_law_1168 ?_
    exact v_if_eq F (pc := 1169) (a := 0) 1174 dL_law_1169 (by decide) (by decide) (fun _ => v_goto F (pc := 1174) 1621 dL_law_1174 (by decide) fin) (fun z => absurd rfl z)
set_option maxRecDepth 100000 in
theorem LC_weightOf {p : Program} {l : Launch} {e : Env} {s : State} {m : MethodId} {args : Array Value} {below : List Frame} {meth : Method} {c : Code} {Q : State → Prop} {g : gT} {A : Nat → Prop} (F : Fx p l s m args meth c cL_law 7 ret RL g A) (hN : NC s) {b L : Nat} {xs : Nat → Int32} (hXs : va_X b L xs s s.heap) (hbl : b < s.heap.size) (hbA : ¬ A b) (hL : L ≤ 2560) {x o : Nat} {P : Nat → Nat} {hC : fH} {v0 : Int64} {σ : sT} {i : Int} (hi : 0 ≤ i ∧ i + 5 ≤ L) (hP : mok P) (hX : SX g x hC σ) (ho : hC o = none) (hd : ∀ a, mheap g P σ a ≠ none → f_or hC (fO g o v0) a = none) (hgv : σ 18 0 < 1000000) {cells slots : Nat} (hc : cells + 60 ≤ 601024) (hs : slots + 9000 ≤ 7293034) (kk : ∀ (h2 : fH) (v2 : Int64), SX g x h2 (su σ 0 0 (c01 (okR σ (sX xs (i + 1))))) → h2 o = none → (∀ a, mheap g P (su σ 0 0 (c01 (okR σ (sX xs (i + 1))))) a ≠ none → f_or h2 (fO g o v2) a = none) → V p l e room_1 s m args below meth c Q 7 g A (f_or (f_or h2 (fO g o v2)) (mheap g P (su σ 0 0 (c01 (okR σ (sX xs (i + 1))))))) (cells + 1) (slots + 6) 1621 [some (.ref b), some (.ref x), some (.ref (P 0)), some (.ref o), some (.int (iI i)), none, none] []) : V p l e room_1 s m args below meth c Q 7 g A (f_or (f_or hC (fO g o v0)) (mheap g P σ)) cells slots 1177 [some (.ref b), some (.ref x), some (.ref (P 0)), some (.ref o), some (.int (iI i)), none, none] [] := by
  have hB := SX.mb hX
  have hdO : ∀ a, fO g o v0 a ≠ none → hC a = none := fun a ha => by rw [fO_n ha]; exact ho
  refine v_aload_n F (pc := 1177) dL_law_1177 rfl ?_
  refine v_aload_n F (pc := 1178) dL_law_1178 rfl ?_
  refine v_iload F (pc := 1179) dL_law_1179 rfl ?_
  refine v_iconst F (pc := 1181) dL_law_1181 ?_
  refine v_iadd F (pc := 1182) (a := i) (b := 1) dL_law_1182 ?_
  refine v_sld F (pc := 1183) hXs hbl hbA (z := i + 1) (by omega) hL dL_law_1183 ?_
  refine v_aload_n F (pc := 1184) dL_law_1184 rfl ?_
  refine v_callW F (pc := 1185) (n := 3) (As := [.ref x, .int (iI (sX xs (i + 1))), .ref o]) (rest := []) lm_weightOf lx_L lc_weightOf ⟨by decide, by decide, by decide +kernel⟩ ls_weightOf (CMW.frame (k := mheap g P σ) (KL_weightOf l g hX ho v0 (sX xs (i + 1)) (sX_rng xs (i + 1))) hd) hN dL_law_1185 rfl rfl (Nat.le_of_ble_eq_true rfl) (Nat.le_of_ble_eq_true rfl) (Nat.le_of_ble_eq_true rfl) (by show cells + 1 ≤ 601024; omega) (by show slots + 6 ≤ 7293034; omega) (fun v1 h1 hp => ?_)
  obtain ⟨h9, ⟨h2, v2, rfl, rfl, ho2, hX2, hv2⟩, rfl, hd2⟩ := hp
  refine v_istore F (pc := 1188) (lo' := [some (.ref b), some (.ref x), some (.ref (P 0)), some (.ref o), some (.int (iI i)), some (.int (iI (c01 (okR σ (sX xs (i + 1)))))), none]) dL_law_1188 (Nat.le_of_ble_eq_true rfl) rfl ?_
  rw [f_or_comm hd2]
  have hd3 := f_or_apart hd2
  refine v_aload_n F (pc := 1190) dL_law_1190 rfl ?_
  refine v_aload_n F (pc := 1191) dL_law_1191 rfl ?_
  refine v_iload F (pc := 1192) dL_law_1192 rfl ?_
  refine v_iconst F (pc := 1194) dL_law_1194 ?_
  refine v_iadd F (pc := 1195) (a := i) (b := 1) dL_law_1195 ?_
  refine v_sld F (pc := 1196) hXs hbl hbA (z := i + 1) (by omega) hL dL_law_1196 ?_
  refine v_callV F (pc := 1197) (As := [.int (iI (sX xs (i + 1)))]) (rest := []) ci_L_156 ct_X5_weightOf cs_X5_weightOf (CM.frame (k := f_or h2 (fO g o v2)) (k_X5_weightOf l g hP hB (sX xs (i + 1)) (sX_rng xs (i + 1))) hd3) dL_law_1197 (k0 := 8) rfl rfl (f_or_l (mh_0 hP)) rfl rfl (Nat.le_of_ble_eq_true rfl) (Nat.le_of_ble_eq_true rfl) (Nat.le_of_ble_eq_true rfl) (by show cells + 1 ≤ 601024; omega) (by show slots + 6 ≤ 7293034; omega) (fun v1 h1 hp => ?_) (fun E h1 hp => by obtain ⟨_, z, _⟩ := hp; exact z.elim)
  obtain ⟨h9, ⟨rfl, rfl⟩, rfl, hd4⟩ := hp
  have hB2 := SX.mb hX2
  refine v_istore F (pc := 1200) (lo' := [some (.ref b), some (.ref x), some (.ref (P 0)), some (.ref o), some (.int (iI i)), some (.int (iI (c01 (okR σ (sX xs (i + 1)))))), some (.int (iI (if c01 (okR σ (sX xs (i + 1))) = 0 then m_weighs σ (sX xs (i + 1)) else 0)))]) dL_law_1200 (Nat.le_of_ble_eq_true rfl) rfl ?_
  refine v_aload_n F (pc := 1202) dL_law_1202 rfl ?_
  refine v_callV F (pc := 1203) (As := []) (rest := []) ci_L_93 ct_X5_thrown cs_X5_thrown (CM.frame (k := f_or h2 (fO g o v2)) (k_X5_thrown l g hP hB2) hd4) dL_law_1203 (k0 := 8) rfl rfl (f_or_l (mh_0 hP)) rfl rfl (Nat.le_of_ble_eq_true rfl) (Nat.le_of_ble_eq_true rfl) (Nat.le_of_ble_eq_true rfl) (by show cells + 1 ≤ 601024; omega) (by show slots + 6 ≤ 7293034; omega) (fun v1 h1 hp => ?_) (fun E h1 hp => by obtain ⟨_, z, _⟩ := hp; exact z.elim)
  obtain ⟨h9, ⟨rfl, rfl⟩, rfl, hd5⟩ := hp
  have h0c : (su σ 0 0 (c01 (okR σ (sX xs (i + 1))))) 0 0 = c01 (okR σ (sX xs (i + 1))) := t0_weightOf σ (sX xs (i + 1))
  rw [h0c]
  have hcr : 0 ≤ c01 (okR σ (sX xs (i + 1))) ∧ c01 (okR σ (sX xs (i + 1))) ≤ 3 := by rw [← h0c]; exact hB2 0 0 (by decide) (by decide)
  refine v_iload F (pc := 1206) dL_law_1206 rfl ?_
  refine v_eqS F (pc := 1208) 1213 dL_law_1208 (by decide) ?_
  have fin : V p l e room_1 s m args below meth c Q 7 g A (f_or (mheap g P (su σ 0 0 (c01 (okR σ (sX xs (i + 1)))))) (f_or h2 (fO g o v2))) (cells + 1) (slots + 6) 1621 [some (.ref b), some (.ref x), some (.ref (P 0)), some (.ref o), some (.int (iI i)), some (.int (iI (c01 (okR σ (sX xs (i + 1)))))), some (.int (iI (if c01 (okR σ (sX xs (i + 1))) = 0 then m_weighs σ (sX xs (i + 1)) else 0)))] [] := by rw [f_or_comm hd5]; exact V.fg (kk h2 v2 hX2 ho2 (f_or_apart hd5)) ⟨rfl, rfl, rfl, rfl, rfl, trivial⟩
  refine v_iload F (pc := 1213) dL_law_1213 rfl ?_
  refine v_if_ne F (pc := 1215) (a := c01 (okR σ (sX xs (i + 1)))) 1230 dL_law_1215 (by decide) (by omega) (fun c_1 => ?_) (fun c_1 => ?_)
  · exact v_goto F (pc := 1230) 1621 dL_law_1230 (by decide) fin
  · have hv := hv2 c_1
    refine v_aload_n F (pc := 1218) dL_law_1218 rfl ?_
    refine v_iconst F (pc := 1219) dL_law_1219 ?_
    refine v_lald F (pc := 1220) (v := v2) (((f_or_r (hd5 o (by rw [f_or_r ho2, fO_s]; exact fun z => by cases z))).trans (f_or_r ho2)).trans fO_s) dL_law_1220 ?_
    refine v_iload F (pc := 1221) dL_law_1221 rfl ?_
    refine v_i2l9 F (pc := 1223) dL_law_1223 ?_
    refine v_lcmpE F (pc := 1224) hv dL_law_1224 ?_
    exact v_if_eq F (pc := 1225) (a := 0) 1230 dL_law_1225 (by decide) (by decide) (fun _ => v_goto F (pc := 1230) 1621 dL_law_1230 (by decide) fin) (fun z => absurd rfl z)
set_option maxRecDepth 100000 in
theorem LC_heatOf {p : Program} {l : Launch} {e : Env} {s : State} {m : MethodId} {args : Array Value} {below : List Frame} {meth : Method} {c : Code} {Q : State → Prop} {g : gT} {A : Nat → Prop} (F : Fx p l s m args meth c cL_law 7 ret RL g A) (hN : NC s) {b L : Nat} {xs : Nat → Int32} (hXs : va_X b L xs s s.heap) (hbl : b < s.heap.size) (hbA : ¬ A b) (hL : L ≤ 2560) {x o : Nat} {P : Nat → Nat} {hC : fH} {v0 : Int64} {σ : sT} {i : Int} (hi : 0 ≤ i ∧ i + 5 ≤ L) (hP : mok P) (hX : SX g x hC σ) (ho : hC o = none) (hd : ∀ a, mheap g P σ a ≠ none → f_or hC (fO g o v0) a = none) (hgv : σ 18 0 < 1000000) {cells slots : Nat} (hc : cells + 60 ≤ 601024) (hs : slots + 9000 ≤ 7293034) (kk : ∀ (h2 : fH) (v2 : Int64), SX g x h2 (su σ 0 0 (c01 (inn (sX xs (i + 1)) 0 3))) → h2 o = none → (∀ a, mheap g P (su σ 0 0 (c01 (inn (sX xs (i + 1)) 0 3))) a ≠ none → f_or h2 (fO g o v2) a = none) → V p l e room_1 s m args below meth c Q 7 g A (f_or (f_or h2 (fO g o v2)) (mheap g P (su σ 0 0 (c01 (inn (sX xs (i + 1)) 0 3))))) (cells + 1) (slots + 6) 1621 [some (.ref b), some (.ref x), some (.ref (P 0)), some (.ref o), some (.int (iI i)), none, none] []) : V p l e room_1 s m args below meth c Q 7 g A (f_or (f_or hC (fO g o v0)) (mheap g P σ)) cells slots 1233 [some (.ref b), some (.ref x), some (.ref (P 0)), some (.ref o), some (.int (iI i)), none, none] [] := by
  have hB := SX.mb hX
  have hdO : ∀ a, fO g o v0 a ≠ none → hC a = none := fun a ha => by rw [fO_n ha]; exact ho
  have hrk := SX.rk hX
  refine v_aload_n F (pc := 1233) dL_law_1233 rfl ?_
  refine v_aload_n F (pc := 1234) dL_law_1234 rfl ?_
  refine v_iload F (pc := 1235) dL_law_1235 rfl ?_
  refine v_iconst F (pc := 1237) dL_law_1237 ?_
  refine v_iadd F (pc := 1238) (a := i) (b := 1) dL_law_1238 ?_
  refine v_sld F (pc := 1239) hXs hbl hbA (z := i + 1) (by omega) hL dL_law_1239 ?_
  refine v_aload_n F (pc := 1240) dL_law_1240 rfl ?_
  refine v_callW F (pc := 1241) (n := 3) (As := [.ref x, .int (iI (sX xs (i + 1))), .ref o]) (rest := []) lm_heatOf lx_L lc_heatOf ⟨by decide, by decide, by decide +kernel⟩ ls_heatOf (CMW.frame (k := mheap g P σ) (KL_heatOf l g hX ho v0 (sX xs (i + 1)) (sX_rng xs (i + 1))) hd) hN dL_law_1241 rfl rfl (Nat.le_of_ble_eq_true rfl) (Nat.le_of_ble_eq_true rfl) (Nat.le_of_ble_eq_true rfl) (by show cells + 1 ≤ 601024; omega) (by show slots + 6 ≤ 7293034; omega) (fun v1 h1 hp => ?_)
  obtain ⟨h9, ⟨h2, v2, rfl, rfl, ho2, hX2, hv2⟩, rfl, hd2⟩ := hp
  refine v_istore F (pc := 1244) (lo' := [some (.ref b), some (.ref x), some (.ref (P 0)), some (.ref o), some (.int (iI i)), some (.int (iI (c01 (inn (sX xs (i + 1)) 0 3)))), none]) dL_law_1244 (Nat.le_of_ble_eq_true rfl) rfl ?_
  rw [f_or_comm hd2]
  have hd3 := f_or_apart hd2
  refine v_aload_n F (pc := 1246) dL_law_1246 rfl ?_
  refine v_aload_n F (pc := 1247) dL_law_1247 rfl ?_
  refine v_iload F (pc := 1248) dL_law_1248 rfl ?_
  refine v_iconst F (pc := 1250) dL_law_1250 ?_
  refine v_iadd F (pc := 1251) (a := i) (b := 1) dL_law_1251 ?_
  refine v_sld F (pc := 1252) hXs hbl hbA (z := i + 1) (by omega) hL dL_law_1252 ?_
  refine v_callV F (pc := 1253) (As := [.int (iI (sX xs (i + 1)))]) (rest := []) ci_L_159 ct_X5_heatOf cs_X5_heatOf (CM.frame (k := f_or h2 (fO g o v2)) (k_X5_heatOf l g hP hB (sX xs (i + 1)) (sX_rng xs (i + 1)) (fun k a b => (hrk k a b).1)) hd3) dL_law_1253 (k0 := 8) rfl rfl (f_or_l (mh_0 hP)) rfl rfl (Nat.le_of_ble_eq_true rfl) (Nat.le_of_ble_eq_true rfl) (Nat.le_of_ble_eq_true rfl) (by show cells + 1 ≤ 601024; omega) (by show slots + 6 ≤ 7293034; omega) (fun v1 h1 hp => ?_) (fun E h1 hp => by obtain ⟨_, z, _⟩ := hp; exact z.elim)
  obtain ⟨h9, ⟨rfl, rfl⟩, rfl, hd4⟩ := hp
  have hB2 := SX.mb hX2
  refine v_istore F (pc := 1256) (lo' := [some (.ref b), some (.ref x), some (.ref (P 0)), some (.ref o), some (.int (iI i)), some (.int (iI (c01 (inn (sX xs (i + 1)) 0 3)))), some (.int (iI (hO_a σ (sX xs (i + 1)))))]) dL_law_1256 (Nat.le_of_ble_eq_true rfl) rfl ?_
  refine v_aload_n F (pc := 1258) dL_law_1258 rfl ?_
  refine v_callV F (pc := 1259) (As := []) (rest := []) ci_L_93 ct_X5_thrown cs_X5_thrown (CM.frame (k := f_or h2 (fO g o v2)) (k_X5_thrown l g hP hB2) hd4) dL_law_1259 (k0 := 8) rfl rfl (f_or_l (mh_0 hP)) rfl rfl (Nat.le_of_ble_eq_true rfl) (Nat.le_of_ble_eq_true rfl) (Nat.le_of_ble_eq_true rfl) (by show cells + 1 ≤ 601024; omega) (by show slots + 6 ≤ 7293034; omega) (fun v1 h1 hp => ?_) (fun E h1 hp => by obtain ⟨_, z, _⟩ := hp; exact z.elim)
  obtain ⟨h9, ⟨rfl, rfl⟩, rfl, hd5⟩ := hp
  have h0c : (su σ 0 0 (c01 (inn (sX xs (i + 1)) 0 3))) 0 0 = c01 (inn (sX xs (i + 1)) 0 3) := t0_heatOf σ (sX xs (i + 1))
  rw [h0c]
  have hcr : 0 ≤ c01 (inn (sX xs (i + 1)) 0 3) ∧ c01 (inn (sX xs (i + 1)) 0 3) ≤ 3 := by rw [← h0c]; exact hB2 0 0 (by decide) (by decide)
  refine v_iload F (pc := 1262) dL_law_1262 rfl ?_
  refine v_eqS F (pc := 1264) 1269 dL_law_1264 (by decide) ?_
  have fin : V p l e room_1 s m args below meth c Q 7 g A (f_or (mheap g P (su σ 0 0 (c01 (inn (sX xs (i + 1)) 0 3)))) (f_or h2 (fO g o v2))) (cells + 1) (slots + 6) 1621 [some (.ref b), some (.ref x), some (.ref (P 0)), some (.ref o), some (.int (iI i)), some (.int (iI (c01 (inn (sX xs (i + 1)) 0 3)))), some (.int (iI (hO_a σ (sX xs (i + 1)))))] [] := by rw [f_or_comm hd5]; exact V.fg (kk h2 v2 hX2 ho2 (f_or_apart hd5)) ⟨rfl, rfl, rfl, rfl, rfl, trivial⟩
  refine v_iload F (pc := 1269) dL_law_1269 rfl ?_
  refine v_if_ne F (pc := 1271) (a := c01 (inn (sX xs (i + 1)) 0 3)) 1286 dL_law_1271 (by decide) (by omega) (fun c_1 => ?_) (fun c_1 => ?_)
  · exact v_goto F (pc := 1286) 1621 dL_law_1286 (by decide) fin
  · have hv := hv2 c_1
    refine v_aload_n F (pc := 1274) dL_law_1274 rfl ?_
    refine v_iconst F (pc := 1275) dL_law_1275 ?_
    refine v_lald F (pc := 1276) (v := v2) (((f_or_r (hd5 o (by rw [f_or_r ho2, fO_s]; exact fun z => by cases z))).trans (f_or_r ho2)).trans fO_s) dL_law_1276 ?_
    refine v_iload F (pc := 1277) dL_law_1277 rfl ?_
    refine v_i2l9 F (pc := 1279) dL_law_1279 ?_
    refine v_lcmpE F (pc := 1280) hv dL_law_1280 ?_
    exact v_if_eq F (pc := 1281) (a := 0) 1286 dL_law_1281 (by decide) (by decide) (fun _ => v_goto F (pc := 1286) 1621 dL_law_1286 (by decide) fin) (fun z => absurd rfl z)
set_option maxRecDepth 100000 in
theorem LC_gap {p : Program} {l : Launch} {e : Env} {s : State} {m : MethodId} {args : Array Value} {below : List Frame} {meth : Method} {c : Code} {Q : State → Prop} {g : gT} {A : Nat → Prop} (F : Fx p l s m args meth c cL_law 7 ret RL g A) (hN : NC s) {b L : Nat} {xs : Nat → Int32} (hXs : va_X b L xs s s.heap) (hbl : b < s.heap.size) (hbA : ¬ A b) (hL : L ≤ 2560) {x o : Nat} {P : Nat → Nat} {hC : fH} {v0 : Int64} {σ : sT} {i : Int} (hi : 0 ≤ i ∧ i + 5 ≤ L) (hP : mok P) (hX : SX g x hC σ) (ho : hC o = none) (hd : ∀ a, mheap g P σ a ≠ none → f_or hC (fO g o v0) a = none) (hgv : σ 18 0 < 1000000) {cells slots : Nat} (hc : cells + 60 ≤ 601024) (hs : slots + 9000 ≤ 7293034) (kk : ∀ (h2 : fH) (v2 : Int64), SX g x h2 (su σ 0 0 (c01 (okR σ (sX xs (i + 1))))) → h2 o = none → (∀ a, mheap g P (su σ 0 0 (c01 (okR σ (sX xs (i + 1))))) a ≠ none → f_or h2 (fO g o v2) a = none) → V p l e room_1 s m args below meth c Q 7 g A (f_or (f_or h2 (fO g o v2)) (mheap g P (su σ 0 0 (c01 (okR σ (sX xs (i + 1))))))) (cells + 1) (slots + 6) 1621 [some (.ref b), some (.ref x), some (.ref (P 0)), some (.ref o), some (.int (iI i)), none, none] []) : V p l e room_1 s m args below meth c Q 7 g A (f_or (f_or hC (fO g o v0)) (mheap g P σ)) cells slots 1289 [some (.ref b), some (.ref x), some (.ref (P 0)), some (.ref o), some (.int (iI i)), none, none] [] := by
  have hB := SX.mb hX
  have hdO : ∀ a, fO g o v0 a ≠ none → hC a = none := fun a ha => by rw [fO_n ha]; exact ho
  refine v_aload_n F (pc := 1289) dL_law_1289 rfl ?_
  refine v_aload_n F (pc := 1290) dL_law_1290 rfl ?_
  refine v_iload F (pc := 1291) dL_law_1291 rfl ?_
  refine v_iconst F (pc := 1293) dL_law_1293 ?_
  refine v_iadd F (pc := 1294) (a := i) (b := 1) dL_law_1294 ?_
  refine v_sld F (pc := 1295) hXs hbl hbA (z := i + 1) (by omega) hL dL_law_1295 ?_
  refine v_aload_n F (pc := 1296) dL_law_1296 rfl ?_
  refine v_callW F (pc := 1297) (n := 3) (As := [.ref x, .int (iI (sX xs (i + 1))), .ref o]) (rest := []) lm_gap lx_L lc_gap ⟨by decide, by decide, by decide +kernel⟩ ls_gap (CMW.frame (k := mheap g P σ) (KL_gap l g hX ho v0 (sX xs (i + 1)) (sX_rng xs (i + 1))) hd) hN dL_law_1297 rfl rfl (Nat.le_of_ble_eq_true rfl) (Nat.le_of_ble_eq_true rfl) (Nat.le_of_ble_eq_true rfl) (by show cells + 1 ≤ 601024; omega) (by show slots + 6 ≤ 7293034; omega) (fun v1 h1 hp => ?_)
  obtain ⟨h9, ⟨h2, v2, rfl, rfl, ho2, hX2, hv2⟩, rfl, hd2⟩ := hp
  refine v_istore F (pc := 1300) (lo' := [some (.ref b), some (.ref x), some (.ref (P 0)), some (.ref o), some (.int (iI i)), some (.int (iI (c01 (okR σ (sX xs (i + 1)))))), none]) dL_law_1300 (Nat.le_of_ble_eq_true rfl) rfl ?_
  rw [f_or_comm hd2]
  have hd3 := f_or_apart hd2
  refine v_aload_n F (pc := 1302) dL_law_1302 rfl ?_
  refine v_aload_n F (pc := 1303) dL_law_1303 rfl ?_
  refine v_iload F (pc := 1304) dL_law_1304 rfl ?_
  refine v_iconst F (pc := 1306) dL_law_1306 ?_
  refine v_iadd F (pc := 1307) (a := i) (b := 1) dL_law_1307 ?_
  refine v_sld F (pc := 1308) hXs hbl hbA (z := i + 1) (by omega) hL dL_law_1308 ?_
  refine v_callV F (pc := 1309) (As := [.int (iI (sX xs (i + 1)))]) (rest := []) ci_L_162 ct_X5_gap cs_X5_gap (CM.frame (k := f_or h2 (fO g o v2)) (k_X5_gap l g hP hB (sX xs (i + 1)) (sX_rng xs (i + 1))) hd3) dL_law_1309 (k0 := 8) rfl rfl (f_or_l (mh_0 hP)) rfl rfl (Nat.le_of_ble_eq_true rfl) (Nat.le_of_ble_eq_true rfl) (Nat.le_of_ble_eq_true rfl) (by show cells + 1 ≤ 601024; omega) (by show slots + 6 ≤ 7293034; omega) (fun v1 h1 hp => ?_) (fun E h1 hp => by obtain ⟨_, z, _⟩ := hp; exact z.elim)
  obtain ⟨h9, ⟨rfl, rfl⟩, rfl, hd4⟩ := hp
  have hB2 := SX.mb hX2
  refine v_istore F (pc := 1312) (lo' := [some (.ref b), some (.ref x), some (.ref (P 0)), some (.ref o), some (.int (iI i)), some (.int (iI (c01 (okR σ (sX xs (i + 1)))))), some (.int (iI (if c01 (okR σ (sX xs (i + 1))) = 0 then (m_gap σ (sX xs (i + 1)) (σ 2 (sX xs (i + 1)))).1 else 0)))]) dL_law_1312 (Nat.le_of_ble_eq_true rfl) rfl ?_
  refine v_aload_n F (pc := 1314) dL_law_1314 rfl ?_
  refine v_callV F (pc := 1315) (As := []) (rest := []) ci_L_93 ct_X5_thrown cs_X5_thrown (CM.frame (k := f_or h2 (fO g o v2)) (k_X5_thrown l g hP hB2) hd4) dL_law_1315 (k0 := 8) rfl rfl (f_or_l (mh_0 hP)) rfl rfl (Nat.le_of_ble_eq_true rfl) (Nat.le_of_ble_eq_true rfl) (Nat.le_of_ble_eq_true rfl) (by show cells + 1 ≤ 601024; omega) (by show slots + 6 ≤ 7293034; omega) (fun v1 h1 hp => ?_) (fun E h1 hp => by obtain ⟨_, z, _⟩ := hp; exact z.elim)
  obtain ⟨h9, ⟨rfl, rfl⟩, rfl, hd5⟩ := hp
  have h0c : (su σ 0 0 (c01 (okR σ (sX xs (i + 1))))) 0 0 = c01 (okR σ (sX xs (i + 1))) := t0_gap σ (sX xs (i + 1))
  rw [h0c]
  have hcr : 0 ≤ c01 (okR σ (sX xs (i + 1))) ∧ c01 (okR σ (sX xs (i + 1))) ≤ 3 := by rw [← h0c]; exact hB2 0 0 (by decide) (by decide)
  refine v_iload F (pc := 1318) dL_law_1318 rfl ?_
  refine v_eqS F (pc := 1320) 1325 dL_law_1320 (by decide) ?_
  have fin : V p l e room_1 s m args below meth c Q 7 g A (f_or (mheap g P (su σ 0 0 (c01 (okR σ (sX xs (i + 1)))))) (f_or h2 (fO g o v2))) (cells + 1) (slots + 6) 1621 [some (.ref b), some (.ref x), some (.ref (P 0)), some (.ref o), some (.int (iI i)), some (.int (iI (c01 (okR σ (sX xs (i + 1)))))), some (.int (iI (if c01 (okR σ (sX xs (i + 1))) = 0 then (m_gap σ (sX xs (i + 1)) (σ 2 (sX xs (i + 1)))).1 else 0)))] [] := by rw [f_or_comm hd5]; exact V.fg (kk h2 v2 hX2 ho2 (f_or_apart hd5)) ⟨rfl, rfl, rfl, rfl, rfl, trivial⟩
  refine v_iload F (pc := 1325) dL_law_1325 rfl ?_
  refine v_if_ne F (pc := 1327) (a := c01 (okR σ (sX xs (i + 1)))) 1342 dL_law_1327 (by decide) (by omega) (fun c_1 => ?_) (fun c_1 => ?_)
  · exact v_goto F (pc := 1342) 1621 dL_law_1342 (by decide) fin
  · have hv := hv2 c_1
    refine v_aload_n F (pc := 1330) dL_law_1330 rfl ?_
    refine v_iconst F (pc := 1331) dL_law_1331 ?_
    refine v_lald F (pc := 1332) (v := v2) (((f_or_r (hd5 o (by rw [f_or_r ho2, fO_s]; exact fun z => by cases z))).trans (f_or_r ho2)).trans fO_s) dL_law_1332 ?_
    refine v_iload F (pc := 1333) dL_law_1333 rfl ?_
    refine v_i2l9 F (pc := 1335) dL_law_1335 ?_
    refine v_lcmpE F (pc := 1336) hv dL_law_1336 ?_
    exact v_if_eq F (pc := 1337) (a := 0) 1342 dL_law_1337 (by decide) (by decide) (fun _ => v_goto F (pc := 1342) 1621 dL_law_1342 (by decide) fin) (fun z => absurd rfl z)
set_option maxRecDepth 100000 in
theorem LC_racksFor {p : Program} {l : Launch} {e : Env} {s : State} {m : MethodId} {args : Array Value} {below : List Frame} {meth : Method} {c : Code} {Q : State → Prop} {g : gT} {A : Nat → Prop} (F : Fx p l s m args meth c cL_law 7 ret RL g A) (hN : NC s) {b L : Nat} {xs : Nat → Int32} (hXs : va_X b L xs s s.heap) (hbl : b < s.heap.size) (hbA : ¬ A b) (hL : L ≤ 2560) {x o : Nat} {P : Nat → Nat} {hC : fH} {v0 : Int64} {σ : sT} {i : Int} (hi : 0 ≤ i ∧ i + 5 ≤ L) (hP : mok P) (hX : SX g x hC σ) (ho : hC o = none) (hd : ∀ a, mheap g P σ a ≠ none → f_or hC (fO g o v0) a = none) (hgv : σ 18 0 < 1000000) {cells slots : Nat} (hc : cells + 60 ≤ 601024) (hs : slots + 9000 ≤ 7293034) (kk : ∀ (h2 : fH) (v2 : Int64), SX g x h2 (su σ 0 0 (c01 (m_kind (sX xs (i + 1)) (sX xs (i + 2)) (sX xs (i + 3)) (sX xs (i + 4))))) → h2 o = none → (∀ a, mheap g P (su σ 0 0 (c01 (m_kind (sX xs (i + 1)) (sX xs (i + 2)) (sX xs (i + 3)) (sX xs (i + 4))))) a ≠ none → f_or h2 (fO g o v2) a = none) → V p l e room_1 s m args below meth c Q 7 g A (f_or (f_or h2 (fO g o v2)) (mheap g P (su σ 0 0 (c01 (m_kind (sX xs (i + 1)) (sX xs (i + 2)) (sX xs (i + 3)) (sX xs (i + 4))))))) (cells + 5) (slots + 31) 1621 [some (.ref b), some (.ref x), some (.ref (P 0)), some (.ref o), some (.int (iI i)), none, none] []) : V p l e room_1 s m args below meth c Q 7 g A (f_or (f_or hC (fO g o v0)) (mheap g P σ)) cells slots 1345 [some (.ref b), some (.ref x), some (.ref (P 0)), some (.ref o), some (.int (iI i)), none, none] [] := by
  have hB := SX.mb hX
  have hdO : ∀ a, fO g o v0 a ≠ none → hC a = none := fun a ha => by rw [fO_n ha]; exact ho
  refine v_aload_n F (pc := 1345) dL_law_1345 rfl ?_
  refine v_aload_n F (pc := 1346) dL_law_1346 rfl ?_
  refine v_iload F (pc := 1347) dL_law_1347 rfl ?_
  refine v_iconst F (pc := 1349) dL_law_1349 ?_
  refine v_iadd F (pc := 1350) (a := i) (b := 1) dL_law_1350 ?_
  refine v_sld F (pc := 1351) hXs hbl hbA (z := i + 1) (by omega) hL dL_law_1351 ?_
  refine v_aload_n F (pc := 1352) dL_law_1352 rfl ?_
  refine v_iload F (pc := 1353) dL_law_1353 rfl ?_
  refine v_iconst F (pc := 1355) dL_law_1355 ?_
  refine v_iadd F (pc := 1356) (a := i) (b := 2) dL_law_1356 ?_
  refine v_sld F (pc := 1357) hXs hbl hbA (z := i + 2) (by omega) hL dL_law_1357 ?_
  refine v_aload_n F (pc := 1358) dL_law_1358 rfl ?_
  refine v_iload F (pc := 1359) dL_law_1359 rfl ?_
  refine v_iconst F (pc := 1361) dL_law_1361 ?_
  refine v_iadd F (pc := 1362) (a := i) (b := 3) dL_law_1362 ?_
  refine v_sld F (pc := 1363) hXs hbl hbA (z := i + 3) (by omega) hL dL_law_1363 ?_
  refine v_aload_n F (pc := 1364) dL_law_1364 rfl ?_
  refine v_iload F (pc := 1365) dL_law_1365 rfl ?_
  refine v_iconst F (pc := 1367) dL_law_1367 ?_
  refine v_iadd F (pc := 1368) (a := i) (b := 4) dL_law_1368 ?_
  refine v_sld F (pc := 1369) hXs hbl hbA (z := i + 4) (by omega) hL dL_law_1369 ?_
  refine v_aload_n F (pc := 1370) dL_law_1370 rfl ?_
  refine v_callW F (pc := 1371) (n := 6) (As := [.ref x, .int (iI (sX xs (i + 1))), .int (iI (sX xs (i + 2))), .int (iI (sX xs (i + 3))), .int (iI (sX xs (i + 4))), .ref o]) (rest := []) lm_racksFor lx_L lc_racksFor ⟨by decide, by decide, by decide +kernel⟩ ls_racksFor (CMW.frame (k := mheap g P σ) (KL_racksFor l g hX ho v0 (sX xs (i + 1)) (sX xs (i + 2)) (sX xs (i + 3)) (sX xs (i + 4)) (sX_rng xs (i + 1)) (sX_rng xs (i + 2)) (sX_rng xs (i + 3)) (sX_rng xs (i + 4))) hd) hN dL_law_1371 rfl rfl (Nat.le_of_ble_eq_true rfl) (Nat.le_of_ble_eq_true rfl) (Nat.le_of_ble_eq_true rfl) (by show cells + 5 ≤ 601024; omega) (by show slots + 31 ≤ 7293034; omega) (fun v1 h1 hp => ?_)
  obtain ⟨h9, ⟨h2, v2, rfl, rfl, ho2, hX2, hv2⟩, rfl, hd2⟩ := hp
  refine v_istore F (pc := 1374) (lo' := [some (.ref b), some (.ref x), some (.ref (P 0)), some (.ref o), some (.int (iI i)), some (.int (iI (c01 (m_kind (sX xs (i + 1)) (sX xs (i + 2)) (sX xs (i + 3)) (sX xs (i + 4)))))), none]) dL_law_1374 (Nat.le_of_ble_eq_true rfl) rfl ?_
  rw [f_or_comm hd2]
  have hd3 := f_or_apart hd2
  refine v_aload_n F (pc := 1376) dL_law_1376 rfl ?_
  refine v_aload_n F (pc := 1377) dL_law_1377 rfl ?_
  refine v_iload F (pc := 1378) dL_law_1378 rfl ?_
  refine v_iconst F (pc := 1380) dL_law_1380 ?_
  refine v_iadd F (pc := 1381) (a := i) (b := 1) dL_law_1381 ?_
  refine v_sld F (pc := 1382) hXs hbl hbA (z := i + 1) (by omega) hL dL_law_1382 ?_
  refine v_aload_n F (pc := 1383) dL_law_1383 rfl ?_
  refine v_iload F (pc := 1384) dL_law_1384 rfl ?_
  refine v_iconst F (pc := 1386) dL_law_1386 ?_
  refine v_iadd F (pc := 1387) (a := i) (b := 2) dL_law_1387 ?_
  refine v_sld F (pc := 1388) hXs hbl hbA (z := i + 2) (by omega) hL dL_law_1388 ?_
  refine v_aload_n F (pc := 1389) dL_law_1389 rfl ?_
  refine v_iload F (pc := 1390) dL_law_1390 rfl ?_
  refine v_iconst F (pc := 1392) dL_law_1392 ?_
  refine v_iadd F (pc := 1393) (a := i) (b := 3) dL_law_1393 ?_
  refine v_sld F (pc := 1394) hXs hbl hbA (z := i + 3) (by omega) hL dL_law_1394 ?_
  refine v_aload_n F (pc := 1395) dL_law_1395 rfl ?_
  refine v_iload F (pc := 1396) dL_law_1396 rfl ?_
  refine v_iconst F (pc := 1398) dL_law_1398 ?_
  refine v_iadd F (pc := 1399) (a := i) (b := 4) dL_law_1399 ?_
  refine v_sld F (pc := 1400) hXs hbl hbA (z := i + 4) (by omega) hL dL_law_1400 ?_
  refine v_callV F (pc := 1401) (As := [.int (iI (sX xs (i + 1))), .int (iI (sX xs (i + 2))), .int (iI (sX xs (i + 3))), .int (iI (sX xs (i + 4)))]) (rest := []) ci_L_165 ct_X5_racksFor cs_X5_racksFor (CM.frame (k := f_or h2 (fO g o v2)) (k_X5_racksFor l g hP hB (sX xs (i + 1)) (sX xs (i + 2)) (sX xs (i + 3)) (sX xs (i + 4)) (sX_rng xs (i + 1)) (sX_rng xs (i + 2)) (sX_rng xs (i + 3)) (sX_rng xs (i + 4))) hd3) dL_law_1401 (k0 := 8) rfl rfl (f_or_l (mh_0 hP)) rfl rfl (Nat.le_of_ble_eq_true rfl) (Nat.le_of_ble_eq_true rfl) (Nat.le_of_ble_eq_true rfl) (by show cells + 5 ≤ 601024; omega) (by show slots + 31 ≤ 7293034; omega) (fun v1 h1 hp => ?_) (fun E h1 hp => by obtain ⟨_, z, _⟩ := hp; exact z.elim)
  obtain ⟨h9, ⟨rfl, rfl⟩, rfl, hd4⟩ := hp
  have hB2 := SX.mb hX2
  refine v_istore F (pc := 1404) (lo' := [some (.ref b), some (.ref x), some (.ref (P 0)), some (.ref o), some (.int (iI i)), some (.int (iI (c01 (m_kind (sX xs (i + 1)) (sX xs (i + 2)) (sX xs (i + 3)) (sX xs (i + 4)))))), some (.int (iI (rF_a σ (sX xs (i + 1)) (sX xs (i + 2)) (sX xs (i + 3)) (sX xs (i + 4)))))]) dL_law_1404 (Nat.le_of_ble_eq_true rfl) rfl ?_
  refine v_aload_n F (pc := 1406) dL_law_1406 rfl ?_
  refine v_callV F (pc := 1407) (As := []) (rest := []) ci_L_93 ct_X5_thrown cs_X5_thrown (CM.frame (k := f_or h2 (fO g o v2)) (k_X5_thrown l g hP hB2) hd4) dL_law_1407 (k0 := 8) rfl rfl (f_or_l (mh_0 hP)) rfl rfl (Nat.le_of_ble_eq_true rfl) (Nat.le_of_ble_eq_true rfl) (Nat.le_of_ble_eq_true rfl) (by show cells + 5 ≤ 601024; omega) (by show slots + 31 ≤ 7293034; omega) (fun v1 h1 hp => ?_) (fun E h1 hp => by obtain ⟨_, z, _⟩ := hp; exact z.elim)
  obtain ⟨h9, ⟨rfl, rfl⟩, rfl, hd5⟩ := hp
  have h0c : (su σ 0 0 (c01 (m_kind (sX xs (i + 1)) (sX xs (i + 2)) (sX xs (i + 3)) (sX xs (i + 4))))) 0 0 = c01 (m_kind (sX xs (i + 1)) (sX xs (i + 2)) (sX xs (i + 3)) (sX xs (i + 4))) := t0_racksFor σ (sX xs (i + 1)) (sX xs (i + 2)) (sX xs (i + 3)) (sX xs (i + 4))
  rw [h0c]
  have hcr : 0 ≤ c01 (m_kind (sX xs (i + 1)) (sX xs (i + 2)) (sX xs (i + 3)) (sX xs (i + 4))) ∧ c01 (m_kind (sX xs (i + 1)) (sX xs (i + 2)) (sX xs (i + 3)) (sX xs (i + 4))) ≤ 3 := by rw [← h0c]; exact hB2 0 0 (by decide) (by decide)
  refine v_iload F (pc := 1410) dL_law_1410 rfl ?_
  refine v_eqS F (pc := 1412) 1417 dL_law_1412 (by decide) ?_
  have fin : V p l e room_1 s m args below meth c Q 7 g A (f_or (mheap g P (su σ 0 0 (c01 (m_kind (sX xs (i + 1)) (sX xs (i + 2)) (sX xs (i + 3)) (sX xs (i + 4)))))) (f_or h2 (fO g o v2))) (cells + 5) (slots + 31) 1621 [some (.ref b), some (.ref x), some (.ref (P 0)), some (.ref o), some (.int (iI i)), some (.int (iI (c01 (m_kind (sX xs (i + 1)) (sX xs (i + 2)) (sX xs (i + 3)) (sX xs (i + 4)))))), some (.int (iI (rF_a σ (sX xs (i + 1)) (sX xs (i + 2)) (sX xs (i + 3)) (sX xs (i + 4)))))] [] := by rw [f_or_comm hd5]; exact V.fg (kk h2 v2 hX2 ho2 (f_or_apart hd5)) ⟨rfl, rfl, rfl, rfl, rfl, trivial⟩
  refine v_iload F (pc := 1417) dL_law_1417 rfl ?_
  refine v_if_ne F (pc := 1419) (a := c01 (m_kind (sX xs (i + 1)) (sX xs (i + 2)) (sX xs (i + 3)) (sX xs (i + 4)))) 1434 dL_law_1419 (by decide) (by omega) (fun c_1 => ?_) (fun c_1 => ?_)
  · exact v_goto F (pc := 1434) 1621 dL_law_1434 (by decide) fin
  · have hv := hv2 c_1
    refine v_aload_n F (pc := 1422) dL_law_1422 rfl ?_
    refine v_iconst F (pc := 1423) dL_law_1423 ?_
    refine v_lald F (pc := 1424) (v := v2) (((f_or_r (hd5 o (by rw [f_or_r ho2, fO_s]; exact fun z => by cases z))).trans (f_or_r ho2)).trans fO_s) dL_law_1424 ?_
    refine v_iload F (pc := 1425) dL_law_1425 rfl ?_
    refine v_i2l9 F (pc := 1427) dL_law_1427 ?_
    refine v_lcmpE F (pc := 1428) hv dL_law_1428 ?_
    exact v_if_eq F (pc := 1429) (a := 0) 1434 dL_law_1429 (by decide) (by decide) (fun _ => v_goto F (pc := 1434) 1621 dL_law_1434 (by decide) fin) (fun z => absurd rfl z)
set_option maxRecDepth 100000 in
theorem LC_roomFor {p : Program} {l : Launch} {e : Env} {s : State} {m : MethodId} {args : Array Value} {below : List Frame} {meth : Method} {c : Code} {Q : State → Prop} {g : gT} {A : Nat → Prop} (F : Fx p l s m args meth c cL_law 7 ret RL g A) (hN : NC s) {b L : Nat} {xs : Nat → Int32} (hXs : va_X b L xs s s.heap) (hbl : b < s.heap.size) (hbA : ¬ A b) (hL : L ≤ 2560) {x o : Nat} {P : Nat → Nat} {hC : fH} {v0 : Int64} {σ : sT} {i : Int} (hi : 0 ≤ i ∧ i + 5 ≤ L) (hP : mok P) (hX : SX g x hC σ) (ho : hC o = none) (hd : ∀ a, mheap g P σ a ≠ none → f_or hC (fO g o v0) a = none) (hgv : σ 18 0 < 1000000) {cells slots : Nat} (hc : cells + 60 ≤ 601024) (hs : slots + 9000 ≤ 7293034) (kk : ∀ (h2 : fH) (v2 : Int64), SX g x h2 (su σ 0 0 (c01 (m_kind (sX xs (i + 1)) (sX xs (i + 2)) (sX xs (i + 3)) (sX xs (i + 4))))) → h2 o = none → (∀ a, mheap g P (su σ 0 0 (c01 (m_kind (sX xs (i + 1)) (sX xs (i + 2)) (sX xs (i + 3)) (sX xs (i + 4))))) a ≠ none → f_or h2 (fO g o v2) a = none) → V p l e room_1 s m args below meth c Q 7 g A (f_or (f_or h2 (fO g o v2)) (mheap g P (su σ 0 0 (c01 (m_kind (sX xs (i + 1)) (sX xs (i + 2)) (sX xs (i + 3)) (sX xs (i + 4))))))) (cells + 5) (slots + 31) 1621 [some (.ref b), some (.ref x), some (.ref (P 0)), some (.ref o), some (.int (iI i)), none, none] []) : V p l e room_1 s m args below meth c Q 7 g A (f_or (f_or hC (fO g o v0)) (mheap g P σ)) cells slots 1437 [some (.ref b), some (.ref x), some (.ref (P 0)), some (.ref o), some (.int (iI i)), none, none] [] := by
  have hB := SX.mb hX
  have hdO : ∀ a, fO g o v0 a ≠ none → hC a = none := fun a ha => by rw [fO_n ha]; exact ho
  have hML := SX.ml hX
  refine v_aload_n F (pc := 1437) dL_law_1437 rfl ?_
  refine v_aload_n F (pc := 1438) dL_law_1438 rfl ?_
  refine v_iload F (pc := 1439) dL_law_1439 rfl ?_
  refine v_iconst F (pc := 1441) dL_law_1441 ?_
  refine v_iadd F (pc := 1442) (a := i) (b := 1) dL_law_1442 ?_
  refine v_sld F (pc := 1443) hXs hbl hbA (z := i + 1) (by omega) hL dL_law_1443 ?_
  refine v_aload_n F (pc := 1444) dL_law_1444 rfl ?_
  refine v_iload F (pc := 1445) dL_law_1445 rfl ?_
  refine v_iconst F (pc := 1447) dL_law_1447 ?_
  refine v_iadd F (pc := 1448) (a := i) (b := 2) dL_law_1448 ?_
  refine v_sld F (pc := 1449) hXs hbl hbA (z := i + 2) (by omega) hL dL_law_1449 ?_
  refine v_aload_n F (pc := 1450) dL_law_1450 rfl ?_
  refine v_iload F (pc := 1451) dL_law_1451 rfl ?_
  refine v_iconst F (pc := 1453) dL_law_1453 ?_
  refine v_iadd F (pc := 1454) (a := i) (b := 3) dL_law_1454 ?_
  refine v_sld F (pc := 1455) hXs hbl hbA (z := i + 3) (by omega) hL dL_law_1455 ?_
  refine v_aload_n F (pc := 1456) dL_law_1456 rfl ?_
  refine v_iload F (pc := 1457) dL_law_1457 rfl ?_
  refine v_iconst F (pc := 1459) dL_law_1459 ?_
  refine v_iadd F (pc := 1460) (a := i) (b := 4) dL_law_1460 ?_
  refine v_sld F (pc := 1461) hXs hbl hbA (z := i + 4) (by omega) hL dL_law_1461 ?_
  refine v_aload_n F (pc := 1462) dL_law_1462 rfl ?_
  refine v_callW F (pc := 1463) (n := 6) (As := [.ref x, .int (iI (sX xs (i + 1))), .int (iI (sX xs (i + 2))), .int (iI (sX xs (i + 3))), .int (iI (sX xs (i + 4))), .ref o]) (rest := []) lm_roomFor lx_L lc_roomFor ⟨by decide, by decide, by decide +kernel⟩ ls_roomFor (CMW.frame (k := mheap g P σ) (KL_roomFor l g hX ho v0 (sX xs (i + 1)) (sX xs (i + 2)) (sX xs (i + 3)) (sX xs (i + 4)) (sX_rng xs (i + 1)) (sX_rng xs (i + 2)) (sX_rng xs (i + 3)) (sX_rng xs (i + 4))) hd) hN dL_law_1463 rfl rfl (Nat.le_of_ble_eq_true rfl) (Nat.le_of_ble_eq_true rfl) (Nat.le_of_ble_eq_true rfl) (by show cells + 5 ≤ 601024; omega) (by show slots + 31 ≤ 7293034; omega) (fun v1 h1 hp => ?_)
  obtain ⟨h9, ⟨h2, v2, rfl, rfl, ho2, hX2, hv2⟩, rfl, hd2⟩ := hp
  refine v_istore F (pc := 1466) (lo' := [some (.ref b), some (.ref x), some (.ref (P 0)), some (.ref o), some (.int (iI i)), some (.int (iI (c01 (m_kind (sX xs (i + 1)) (sX xs (i + 2)) (sX xs (i + 3)) (sX xs (i + 4)))))), none]) dL_law_1466 (Nat.le_of_ble_eq_true rfl) rfl ?_
  rw [f_or_comm hd2]
  have hd3 := f_or_apart hd2
  refine v_aload_n F (pc := 1468) dL_law_1468 rfl ?_
  refine v_aload_n F (pc := 1469) dL_law_1469 rfl ?_
  refine v_iload F (pc := 1470) dL_law_1470 rfl ?_
  refine v_iconst F (pc := 1472) dL_law_1472 ?_
  refine v_iadd F (pc := 1473) (a := i) (b := 1) dL_law_1473 ?_
  refine v_sld F (pc := 1474) hXs hbl hbA (z := i + 1) (by omega) hL dL_law_1474 ?_
  refine v_aload_n F (pc := 1475) dL_law_1475 rfl ?_
  refine v_iload F (pc := 1476) dL_law_1476 rfl ?_
  refine v_iconst F (pc := 1478) dL_law_1478 ?_
  refine v_iadd F (pc := 1479) (a := i) (b := 2) dL_law_1479 ?_
  refine v_sld F (pc := 1480) hXs hbl hbA (z := i + 2) (by omega) hL dL_law_1480 ?_
  refine v_aload_n F (pc := 1481) dL_law_1481 rfl ?_
  refine v_iload F (pc := 1482) dL_law_1482 rfl ?_
  refine v_iconst F (pc := 1484) dL_law_1484 ?_
  refine v_iadd F (pc := 1485) (a := i) (b := 3) dL_law_1485 ?_
  refine v_sld F (pc := 1486) hXs hbl hbA (z := i + 3) (by omega) hL dL_law_1486 ?_
  refine v_aload_n F (pc := 1487) dL_law_1487 rfl ?_
  refine v_iload F (pc := 1488) dL_law_1488 rfl ?_
  refine v_iconst F (pc := 1490) dL_law_1490 ?_
  refine v_iadd F (pc := 1491) (a := i) (b := 4) dL_law_1491 ?_
  refine v_sld F (pc := 1492) hXs hbl hbA (z := i + 4) (by omega) hL dL_law_1492 ?_
  refine v_callV F (pc := 1493) (As := [.int (iI (sX xs (i + 1))), .int (iI (sX xs (i + 2))), .int (iI (sX xs (i + 3))), .int (iI (sX xs (i + 4)))]) (rest := []) ci_L_168 ct_X5_roomFor cs_X5_roomFor (CM.frame (k := f_or h2 (fO g o v2)) (k_X5_roomFor l g hP hB (sX xs (i + 1)) (sX xs (i + 2)) (sX xs (i + 3)) (sX xs (i + 4)) (sX_rng xs (i + 1)) (sX_rng xs (i + 2)) (sX_rng xs (i + 3)) (sX_rng xs (i + 4)) hML) hd3) dL_law_1493 (k0 := 8) rfl rfl (f_or_l (mh_0 hP)) rfl rfl (Nat.le_of_ble_eq_true rfl) (Nat.le_of_ble_eq_true rfl) (Nat.le_of_ble_eq_true rfl) (by show cells + 5 ≤ 601024; omega) (by show slots + 31 ≤ 7293034; omega) (fun v1 h1 hp => ?_) (fun E h1 hp => by obtain ⟨_, z, _⟩ := hp; exact z.elim)
  obtain ⟨h9, ⟨rfl, rfl⟩, rfl, hd4⟩ := hp
  have hB2 := SX.mb hX2
  refine v_istore F (pc := 1496) (lo' := [some (.ref b), some (.ref x), some (.ref (P 0)), some (.ref o), some (.int (iI i)), some (.int (iI (c01 (m_kind (sX xs (i + 1)) (sX xs (i + 2)) (sX xs (i + 3)) (sX xs (i + 4)))))), some (.int (iI (rc_a σ (sX xs (i + 1)) (sX xs (i + 2)) (sX xs (i + 3)) (sX xs (i + 4)))))]) dL_law_1496 (Nat.le_of_ble_eq_true rfl) rfl ?_
  refine v_aload_n F (pc := 1498) dL_law_1498 rfl ?_
  refine v_callV F (pc := 1499) (As := []) (rest := []) ci_L_93 ct_X5_thrown cs_X5_thrown (CM.frame (k := f_or h2 (fO g o v2)) (k_X5_thrown l g hP hB2) hd4) dL_law_1499 (k0 := 8) rfl rfl (f_or_l (mh_0 hP)) rfl rfl (Nat.le_of_ble_eq_true rfl) (Nat.le_of_ble_eq_true rfl) (Nat.le_of_ble_eq_true rfl) (by show cells + 5 ≤ 601024; omega) (by show slots + 31 ≤ 7293034; omega) (fun v1 h1 hp => ?_) (fun E h1 hp => by obtain ⟨_, z, _⟩ := hp; exact z.elim)
  obtain ⟨h9, ⟨rfl, rfl⟩, rfl, hd5⟩ := hp
  have h0c : (su σ 0 0 (c01 (m_kind (sX xs (i + 1)) (sX xs (i + 2)) (sX xs (i + 3)) (sX xs (i + 4))))) 0 0 = c01 (m_kind (sX xs (i + 1)) (sX xs (i + 2)) (sX xs (i + 3)) (sX xs (i + 4))) := t0_roomFor σ (sX xs (i + 1)) (sX xs (i + 2)) (sX xs (i + 3)) (sX xs (i + 4))
  rw [h0c]
  have hcr : 0 ≤ c01 (m_kind (sX xs (i + 1)) (sX xs (i + 2)) (sX xs (i + 3)) (sX xs (i + 4))) ∧ c01 (m_kind (sX xs (i + 1)) (sX xs (i + 2)) (sX xs (i + 3)) (sX xs (i + 4))) ≤ 3 := by rw [← h0c]; exact hB2 0 0 (by decide) (by decide)
  refine v_iload F (pc := 1502) dL_law_1502 rfl ?_
  refine v_eqS F (pc := 1504) 1509 dL_law_1504 (by decide) ?_
  have fin : V p l e room_1 s m args below meth c Q 7 g A (f_or (mheap g P (su σ 0 0 (c01 (m_kind (sX xs (i + 1)) (sX xs (i + 2)) (sX xs (i + 3)) (sX xs (i + 4)))))) (f_or h2 (fO g o v2))) (cells + 5) (slots + 31) 1621 [some (.ref b), some (.ref x), some (.ref (P 0)), some (.ref o), some (.int (iI i)), some (.int (iI (c01 (m_kind (sX xs (i + 1)) (sX xs (i + 2)) (sX xs (i + 3)) (sX xs (i + 4)))))), some (.int (iI (rc_a σ (sX xs (i + 1)) (sX xs (i + 2)) (sX xs (i + 3)) (sX xs (i + 4)))))] [] := by rw [f_or_comm hd5]; exact V.fg (kk h2 v2 hX2 ho2 (f_or_apart hd5)) ⟨rfl, rfl, rfl, rfl, rfl, trivial⟩
  refine v_iload F (pc := 1509) dL_law_1509 rfl ?_
  refine v_if_ne F (pc := 1511) (a := c01 (m_kind (sX xs (i + 1)) (sX xs (i + 2)) (sX xs (i + 3)) (sX xs (i + 4)))) 1526 dL_law_1511 (by decide) (by omega) (fun c_1 => ?_) (fun c_1 => ?_)
  · exact v_goto F (pc := 1526) 1621 dL_law_1526 (by decide) fin
  · have hv := hv2 c_1
    refine v_aload_n F (pc := 1514) dL_law_1514 rfl ?_
    refine v_iconst F (pc := 1515) dL_law_1515 ?_
    refine v_lald F (pc := 1516) (v := v2) (((f_or_r (hd5 o (by rw [f_or_r ho2, fO_s]; exact fun z => by cases z))).trans (f_or_r ho2)).trans fO_s) dL_law_1516 ?_
    refine v_iload F (pc := 1517) dL_law_1517 rfl ?_
    refine v_i2l9 F (pc := 1519) dL_law_1519 ?_
    refine v_lcmpE F (pc := 1520) hv dL_law_1520 ?_
    exact v_if_eq F (pc := 1521) (a := 0) 1526 dL_law_1521 (by decide) (by decide) (fun _ => v_goto F (pc := 1526) 1621 dL_law_1526 (by decide) fin) (fun z => absurd rfl z)
set_option maxRecDepth 100000 in
theorem LC_roomByCounting {p : Program} {l : Launch} {e : Env} {s : State} {m : MethodId} {args : Array Value} {below : List Frame} {meth : Method} {c : Code} {Q : State → Prop} {g : gT} {A : Nat → Prop} (F : Fx p l s m args meth c cL_law 7 ret RL g A) (hN : NC s) {b L : Nat} {xs : Nat → Int32} (hXs : va_X b L xs s s.heap) (hbl : b < s.heap.size) (hbA : ¬ A b) (hL : L ≤ 2560) {x o : Nat} {P : Nat → Nat} {hC : fH} {v0 : Int64} {σ : sT} {i : Int} (hi : 0 ≤ i ∧ i + 5 ≤ L) (hP : mok P) (hX : SX g x hC σ) (ho : hC o = none) (hd : ∀ a, mheap g P σ a ≠ none → f_or hC (fO g o v0) a = none) (hgv : σ 18 0 < 1000000) {cells slots : Nat} (hc : cells + 60 ≤ 601024) (hs : slots + 9000 ≤ 7293034) (kk : ∀ (h2 : fH) (v2 : Int64), SX g x h2 (su σ 0 0 (c01 (m_kind (sX xs (i + 1)) (sX xs (i + 2)) (sX xs (i + 3)) (sX xs (i + 4))))) → h2 o = none → (∀ a, mheap g P (su σ 0 0 (c01 (m_kind (sX xs (i + 1)) (sX xs (i + 2)) (sX xs (i + 3)) (sX xs (i + 4))))) a ≠ none → f_or h2 (fO g o v2) a = none) → V p l e room_1 s m args below meth c Q 7 g A (f_or (f_or h2 (fO g o v2)) (mheap g P (su σ 0 0 (c01 (m_kind (sX xs (i + 1)) (sX xs (i + 2)) (sX xs (i + 3)) (sX xs (i + 4))))))) (cells + 5) (slots + 31) 1621 [some (.ref b), some (.ref x), some (.ref (P 0)), some (.ref o), some (.int (iI i)), none, none] []) : V p l e room_1 s m args below meth c Q 7 g A (f_or (f_or hC (fO g o v0)) (mheap g P σ)) cells slots 1529 [some (.ref b), some (.ref x), some (.ref (P 0)), some (.ref o), some (.int (iI i)), none, none] [] := by
  have hB := SX.mb hX
  have hdO : ∀ a, fO g o v0 a ≠ none → hC a = none := fun a ha => by rw [fO_n ha]; exact ho
  have hML := SX.ml hX
  refine v_aload_n F (pc := 1529) dL_law_1529 rfl ?_
  refine v_aload_n F (pc := 1530) dL_law_1530 rfl ?_
  refine v_iload F (pc := 1531) dL_law_1531 rfl ?_
  refine v_iconst F (pc := 1533) dL_law_1533 ?_
  refine v_iadd F (pc := 1534) (a := i) (b := 1) dL_law_1534 ?_
  refine v_sld F (pc := 1535) hXs hbl hbA (z := i + 1) (by omega) hL dL_law_1535 ?_
  refine v_aload_n F (pc := 1536) dL_law_1536 rfl ?_
  refine v_iload F (pc := 1537) dL_law_1537 rfl ?_
  refine v_iconst F (pc := 1539) dL_law_1539 ?_
  refine v_iadd F (pc := 1540) (a := i) (b := 2) dL_law_1540 ?_
  refine v_sld F (pc := 1541) hXs hbl hbA (z := i + 2) (by omega) hL dL_law_1541 ?_
  refine v_aload_n F (pc := 1542) dL_law_1542 rfl ?_
  refine v_iload F (pc := 1543) dL_law_1543 rfl ?_
  refine v_iconst F (pc := 1545) dL_law_1545 ?_
  refine v_iadd F (pc := 1546) (a := i) (b := 3) dL_law_1546 ?_
  refine v_sld F (pc := 1547) hXs hbl hbA (z := i + 3) (by omega) hL dL_law_1547 ?_
  refine v_aload_n F (pc := 1548) dL_law_1548 rfl ?_
  refine v_iload F (pc := 1549) dL_law_1549 rfl ?_
  refine v_iconst F (pc := 1551) dL_law_1551 ?_
  refine v_iadd F (pc := 1552) (a := i) (b := 4) dL_law_1552 ?_
  refine v_sld F (pc := 1553) hXs hbl hbA (z := i + 4) (by omega) hL dL_law_1553 ?_
  refine v_aload_n F (pc := 1554) dL_law_1554 rfl ?_
  refine v_callW F (pc := 1555) (n := 6) (As := [.ref x, .int (iI (sX xs (i + 1))), .int (iI (sX xs (i + 2))), .int (iI (sX xs (i + 3))), .int (iI (sX xs (i + 4))), .ref o]) (rest := []) lm_roomByCounting lx_L lc_roomByCounting ⟨by decide, by decide, by decide +kernel⟩ ls_roomByCounting (CMW.frame (k := mheap g P σ) (KL_roomByCounting l g hX ho v0 (sX xs (i + 1)) (sX xs (i + 2)) (sX xs (i + 3)) (sX xs (i + 4)) (sX_rng xs (i + 1)) (sX_rng xs (i + 2)) (sX_rng xs (i + 3)) (sX_rng xs (i + 4))) hd) hN dL_law_1555 rfl rfl (Nat.le_of_ble_eq_true rfl) (Nat.le_of_ble_eq_true rfl) (Nat.le_of_ble_eq_true rfl) (by show cells + 5 ≤ 601024; omega) (by show slots + 31 ≤ 7293034; omega) (fun v1 h1 hp => ?_)
  obtain ⟨h9, ⟨h2, v2, rfl, rfl, ho2, hX2, hv2⟩, rfl, hd2⟩ := hp
  refine v_istore F (pc := 1558) (lo' := [some (.ref b), some (.ref x), some (.ref (P 0)), some (.ref o), some (.int (iI i)), some (.int (iI (c01 (m_kind (sX xs (i + 1)) (sX xs (i + 2)) (sX xs (i + 3)) (sX xs (i + 4)))))), none]) dL_law_1558 (Nat.le_of_ble_eq_true rfl) rfl ?_
  rw [f_or_comm hd2]
  have hd3 := f_or_apart hd2
  refine v_aload_n F (pc := 1560) dL_law_1560 rfl ?_
  refine v_aload_n F (pc := 1561) dL_law_1561 rfl ?_
  refine v_iload F (pc := 1562) dL_law_1562 rfl ?_
  refine v_iconst F (pc := 1564) dL_law_1564 ?_
  refine v_iadd F (pc := 1565) (a := i) (b := 1) dL_law_1565 ?_
  refine v_sld F (pc := 1566) hXs hbl hbA (z := i + 1) (by omega) hL dL_law_1566 ?_
  refine v_aload_n F (pc := 1567) dL_law_1567 rfl ?_
  refine v_iload F (pc := 1568) dL_law_1568 rfl ?_
  refine v_iconst F (pc := 1570) dL_law_1570 ?_
  refine v_iadd F (pc := 1571) (a := i) (b := 2) dL_law_1571 ?_
  refine v_sld F (pc := 1572) hXs hbl hbA (z := i + 2) (by omega) hL dL_law_1572 ?_
  refine v_aload_n F (pc := 1573) dL_law_1573 rfl ?_
  refine v_iload F (pc := 1574) dL_law_1574 rfl ?_
  refine v_iconst F (pc := 1576) dL_law_1576 ?_
  refine v_iadd F (pc := 1577) (a := i) (b := 3) dL_law_1577 ?_
  refine v_sld F (pc := 1578) hXs hbl hbA (z := i + 3) (by omega) hL dL_law_1578 ?_
  refine v_aload_n F (pc := 1579) dL_law_1579 rfl ?_
  refine v_iload F (pc := 1580) dL_law_1580 rfl ?_
  refine v_iconst F (pc := 1582) dL_law_1582 ?_
  refine v_iadd F (pc := 1583) (a := i) (b := 4) dL_law_1583 ?_
  refine v_sld F (pc := 1584) hXs hbl hbA (z := i + 4) (by omega) hL dL_law_1584 ?_
  refine v_callV F (pc := 1585) (As := [.int (iI (sX xs (i + 1))), .int (iI (sX xs (i + 2))), .int (iI (sX xs (i + 3))), .int (iI (sX xs (i + 4)))]) (rest := []) ci_L_171 ct_X5_roomByCounting cs_X5_roomByCounting (CM.frame (k := f_or h2 (fO g o v2)) (k_X5_roomByCounting l g hP hB (sX xs (i + 1)) (sX xs (i + 2)) (sX xs (i + 3)) (sX xs (i + 4)) (sX_rng xs (i + 1)) (sX_rng xs (i + 2)) (sX_rng xs (i + 3)) (sX_rng xs (i + 4)) hML) hd3) dL_law_1585 (k0 := 8) rfl rfl (f_or_l (mh_0 hP)) rfl rfl (Nat.le_of_ble_eq_true rfl) (Nat.le_of_ble_eq_true rfl) (Nat.le_of_ble_eq_true rfl) (by show cells + 5 ≤ 601024; omega) (by show slots + 31 ≤ 7293034; omega) (fun v1 h1 hp => ?_) (fun E h1 hp => by obtain ⟨_, z, _⟩ := hp; exact z.elim)
  obtain ⟨h9, ⟨rfl, rfl⟩, rfl, hd4⟩ := hp
  have hB2 := SX.mb hX2
  refine v_istore F (pc := 1588) (lo' := [some (.ref b), some (.ref x), some (.ref (P 0)), some (.ref o), some (.int (iI i)), some (.int (iI (c01 (m_kind (sX xs (i + 1)) (sX xs (i + 2)) (sX xs (i + 3)) (sX xs (i + 4)))))), some (.int (iI (rc_a σ (sX xs (i + 1)) (sX xs (i + 2)) (sX xs (i + 3)) (sX xs (i + 4)))))]) dL_law_1588 (Nat.le_of_ble_eq_true rfl) rfl ?_
  refine v_aload_n F (pc := 1590) dL_law_1590 rfl ?_
  refine v_callV F (pc := 1591) (As := []) (rest := []) ci_L_93 ct_X5_thrown cs_X5_thrown (CM.frame (k := f_or h2 (fO g o v2)) (k_X5_thrown l g hP hB2) hd4) dL_law_1591 (k0 := 8) rfl rfl (f_or_l (mh_0 hP)) rfl rfl (Nat.le_of_ble_eq_true rfl) (Nat.le_of_ble_eq_true rfl) (Nat.le_of_ble_eq_true rfl) (by show cells + 5 ≤ 601024; omega) (by show slots + 31 ≤ 7293034; omega) (fun v1 h1 hp => ?_) (fun E h1 hp => by obtain ⟨_, z, _⟩ := hp; exact z.elim)
  obtain ⟨h9, ⟨rfl, rfl⟩, rfl, hd5⟩ := hp
  have h0c : (su σ 0 0 (c01 (m_kind (sX xs (i + 1)) (sX xs (i + 2)) (sX xs (i + 3)) (sX xs (i + 4))))) 0 0 = c01 (m_kind (sX xs (i + 1)) (sX xs (i + 2)) (sX xs (i + 3)) (sX xs (i + 4))) := t0_roomByCounting σ (sX xs (i + 1)) (sX xs (i + 2)) (sX xs (i + 3)) (sX xs (i + 4))
  rw [h0c]
  have hcr : 0 ≤ c01 (m_kind (sX xs (i + 1)) (sX xs (i + 2)) (sX xs (i + 3)) (sX xs (i + 4))) ∧ c01 (m_kind (sX xs (i + 1)) (sX xs (i + 2)) (sX xs (i + 3)) (sX xs (i + 4))) ≤ 3 := by rw [← h0c]; exact hB2 0 0 (by decide) (by decide)
  refine v_iload F (pc := 1594) dL_law_1594 rfl ?_
  refine v_eqS F (pc := 1596) 1601 dL_law_1596 (by decide) ?_
  have fin : V p l e room_1 s m args below meth c Q 7 g A (f_or (mheap g P (su σ 0 0 (c01 (m_kind (sX xs (i + 1)) (sX xs (i + 2)) (sX xs (i + 3)) (sX xs (i + 4)))))) (f_or h2 (fO g o v2))) (cells + 5) (slots + 31) 1621 [some (.ref b), some (.ref x), some (.ref (P 0)), some (.ref o), some (.int (iI i)), some (.int (iI (c01 (m_kind (sX xs (i + 1)) (sX xs (i + 2)) (sX xs (i + 3)) (sX xs (i + 4)))))), some (.int (iI (rc_a σ (sX xs (i + 1)) (sX xs (i + 2)) (sX xs (i + 3)) (sX xs (i + 4)))))] [] := by rw [f_or_comm hd5]; exact V.fg (kk h2 v2 hX2 ho2 (f_or_apart hd5)) ⟨rfl, rfl, rfl, rfl, rfl, trivial⟩
  refine v_iload F (pc := 1601) dL_law_1601 rfl ?_
  refine v_if_ne F (pc := 1603) (a := c01 (m_kind (sX xs (i + 1)) (sX xs (i + 2)) (sX xs (i + 3)) (sX xs (i + 4)))) 1618 dL_law_1603 (by decide) (by omega) (fun c_1 => ?_) (fun c_1 => ?_)
  · exact v_goto F (pc := 1618) 1621 dL_law_1618 (by decide) fin
  · have hv := hv2 c_1
    refine v_aload_n F (pc := 1606) dL_law_1606 rfl ?_
    refine v_iconst F (pc := 1607) dL_law_1607 ?_
    refine v_lald F (pc := 1608) (v := v2) (((f_or_r (hd5 o (by rw [f_or_r ho2, fO_s]; exact fun z => by cases z))).trans (f_or_r ho2)).trans fO_s) dL_law_1608 ?_
    refine v_iload F (pc := 1609) dL_law_1609 rfl ?_
    refine v_i2l9 F (pc := 1611) dL_law_1611 ?_
    refine v_lcmpE F (pc := 1612) hv dL_law_1612 ?_
    exact v_if_eq F (pc := 1613) (a := 0) 1618 dL_law_1613 (by decide) (by decide) (fun _ => v_goto F (pc := 1618) 1621 dL_law_1618 (by decide) fin) (fun z => absurd rfl z)
