/-! ===== the law: what a call leaves of the reference's thrown, and of given ===== -/
theorem SX.iv {g : gT} {x : Nat} {h : fH} {σ : sT} (hX : SX g x h σ) : IV σ := by
  obtain ⟨P, K, r, cp, b, b', τ, rfl, rfl, hk, hR⟩ := hX
  exact hR.2.2.1
theorem SX.mb {g : gT} {x : Nat} {h : fH} {σ : sT} (hX : SX g x h σ) : MB σ := hX.iv.1
theorem SX.ml {g : gT} {x : Nat} {h : fH} {σ : sT} (hX : SX g x h σ) : ML σ := hX.iv.2.2.2.2.2
theorem SX.rk {g : gT} {x : Nat} {h : fH} {σ : sT} (hX : SX g x h σ) : ∀ k, 0 ≤ k → k < σ 17 0 → 0 ≤ σ 15 k ∧ σ 15 k < 8 := by
  obtain ⟨hB, hI, hA, -⟩ := hX.iv
  intro k a b
  have := lk_cell hB hI hA a b
  omega
section T0
variable (σ : sT)
theorem t0_su (v : Int) : su σ 0 0 v 0 0 = v := by rw [su_s, iup_s]
theorem t0_addRack (row s x0 y : Int) : aR_s σ row s x0 y 0 0 = aR_c σ row s x0 y := by
  unfold aR_s
  by_cases h : aR_c σ row s x0 y = 0
  · rw [if_pos h, su_n (by decide), su_n (by decide), su_n (by decide), su_n (by decide), su_n (by decide), t0_su]
  · rw [if_neg h, t0_su]
theorem t0_setRow (row x0 y : Int) : sR_s σ row x0 y 0 0 = sR_c σ row x0 y := by
  unfold sR_s
  by_cases h : sR_c σ row x0 y = 0
  · rw [if_pos h, su_n (by decide), su_n (by decide), t0_su]
  · rw [if_neg h, t0_su]
theorem t0_setFeed (f x0 : Int) : sF_s σ f x0 0 0 = sF_c σ f x0 := by
  unfold sF_s
  by_cases h : sF_c σ f x0 = 0
  · rw [if_pos h, su_n (by decide), t0_su]
  · rw [if_neg h, t0_su]
theorem t0_switchFeed (f : Int) : wF_s σ f 0 0 = c01 (inn f 0 1) := by
  unfold wF_s
  by_cases h : c01 (inn f 0 1) = 0
  · rw [if_pos h, su_n (by decide), t0_su]
  · rw [if_neg h, t0_su]
theorem t0_hasFailed (f : Int) : su σ 0 0 (c01 (inn f 0 1)) 0 0 = c01 (inn f 0 1) := t0_su σ _
theorem t0_place (n p w c : Int) : pl_s σ n p w c 0 0 = pl_c σ n p w c := by
  unfold pl_s pl_c
  by_cases h : pl_c1 σ n p w c = 0
  · rw [if_pos h, if_pos h]
    by_cases h2 : pl_r σ n p w c = -1
    · rw [if_pos h2, if_pos h2, t0_su]
    · rw [if_neg h2, if_neg h2, su_n (by decide), su_n (by decide), t0_su]
  · rw [if_neg h, if_neg h, t0_su]
theorem t0_takeOut (num : Int) : tO_s σ num 0 0 = fnd_c σ num := by
  unfold tO_s
  by_cases h : fnd_c σ num = 0
  · rw [if_pos h]
    unfold m_sh
    rw [if_neg (by omega), su_n (by decide), t0_su]
  · rw [if_neg h, t0_su]
theorem t0_cord (num c : Int) : cd_s σ num c 0 0 = cd_c σ num c := by
  unfold cd_s cd_c
  by_cases h : cd_c1 σ num c = 0
  · rw [if_pos h, if_pos h]
    by_cases h2 : cd_ov σ num c = true
    · rw [if_pos h2, if_pos h2, su_n (by decide), t0_su]
    · rw [if_neg h2, if_neg h2, t0_su]
  · rw [if_neg h, if_neg h, t0_su]
theorem t0_rackOf (num : Int) : su σ 0 0 (fnd_c σ num) 0 0 = fnd_c σ num := t0_su σ _
theorem t0_slotOf (num : Int) : su σ 0 0 (fnd_c σ num) 0 0 = fnd_c σ num := t0_su σ _
theorem t0_isDark (num : Int) : su σ 0 0 (fnd_c σ num) 0 0 = fnd_c σ num := t0_su σ _
theorem t0_machineAt (k s : Int) : su σ 0 0 (c01 (mA_ok σ k s)) 0 0 = c01 (mA_ok σ k s) := t0_su σ _
theorem t0_next (num : Int) : su σ 0 0 (nx_c σ num) 0 0 = nx_c σ num := t0_su σ _
theorem t0_powerOf (k f : Int) : su σ 0 0 (rf_c σ k f) 0 0 = rf_c σ k f := t0_su σ _
theorem t0_worstOf (k f : Int) : su σ 0 0 (rf_c σ k f) 0 0 = rf_c σ k f := t0_su σ _
theorem t0_weightOf (k : Int) : su σ 0 0 (c01 (okR σ k)) 0 0 = c01 (okR σ k) := t0_su σ _
theorem t0_heatOf (row : Int) : su σ 0 0 (c01 (inn row 0 3)) 0 0 = c01 (inn row 0 3) := t0_su σ _
theorem t0_gap (k : Int) : su σ 0 0 (c01 (okR σ k)) 0 0 = c01 (okR σ k) := t0_su σ _
theorem t0_racksFor (n p w c : Int) : su σ 0 0 (c01 (m_kind n p w c)) 0 0 = c01 (m_kind n p w c) := t0_su σ _
theorem t0_roomFor (n p w c : Int) : su σ 0 0 (c01 (m_kind n p w c)) 0 0 = c01 (m_kind n p w c) := t0_su σ _
theorem t0_roomByCounting (n p w c : Int) : su σ 0 0 (c01 (m_kind n p w c)) 0 0 = c01 (m_kind n p w c) := t0_su σ _
theorem g8_su (v : Int) : su σ 0 0 v 18 0 ≤ σ 18 0 + 1 := by rw [su_n (by decide)]; omega
theorem g8_addRack (row s x0 y : Int) : aR_s σ row s x0 y 18 0 ≤ σ 18 0 + 1 := by
  unfold aR_s
  split
  · rw [su_n (by decide), su_n (by decide), su_n (by decide), su_n (by decide), su_n (by decide)]; exact g8_su σ _
  · exact g8_su σ _
theorem g8_setRow (row x0 y : Int) : sR_s σ row x0 y 18 0 ≤ σ 18 0 + 1 := by
  unfold sR_s
  split
  · rw [su_n (by decide), su_n (by decide)]; exact g8_su σ _
  · exact g8_su σ _
theorem g8_setFeed (f x0 : Int) : sF_s σ f x0 18 0 ≤ σ 18 0 + 1 := by
  unfold sF_s
  split
  · rw [su_n (by decide)]; exact g8_su σ _
  · exact g8_su σ _
theorem g8_switchFeed (f : Int) : wF_s σ f 18 0 ≤ σ 18 0 + 1 := by
  unfold wF_s
  split
  · rw [su_n (by decide)]; exact g8_su σ _
  · exact g8_su σ _
theorem g8_S (n p w c : Int) : pl_S σ n p w c 18 0 = σ 18 0 := (pl_ag n p w c).2.2.1
theorem g8_place (n p w c : Int) : pl_s σ n p w c 18 0 ≤ σ 18 0 + 1 := by
  unfold pl_s
  split
  · split
    · rw [su_n (by decide), g8_S]; omega
    · rw [su_s, iup_s]; omega
  · exact g8_su σ _
theorem g8_takeOut (num : Int) : tO_s σ num 18 0 ≤ σ 18 0 + 1 := by
  unfold tO_s
  split
  · unfold m_sh
    rw [if_neg (by omega), su_n (by decide)]; exact g8_su σ _
  · exact g8_su σ _
theorem g8_cord (num c : Int) : cd_s σ num c 18 0 ≤ σ 18 0 + 1 := by
  unfold cd_s
  split
  · split
    · rw [su_n (by decide), su_n (by decide), su_n (by decide)]; exact g8_su σ _
    · rw [su_n (by decide), su_n (by decide)]; exact g8_su σ _
  · exact g8_su σ _
theorem g8_whN : ∀ (n : Nat) (τ : sT), (m_whN n τ).1 18 0 = τ 18 0
  | 0, τ => rfl
  | n + 1, τ => by
    show (if m_nx τ = -1 ∨ m_pr τ (m_nx τ) = -1 then (τ, m_nx τ) else m_whN n (m_put τ (m_nx τ))).1 18 0 = _
    split
    · rfl
    · rw [g8_whN n]
      by_cases h : m_pr τ (m_nx τ) = -1
      · rw [m_put_none h]
      · rw [m_put_some h, su_n (by decide), su_n (by decide)]
theorem g8_pack : pk_s σ 18 0 ≤ σ 18 0 + 1 := by
  have e1 : (pk_R σ).1 18 0 = σ 18 0 := by
    unfold pk_R m_wh
    rw [g8_whN]
    rfl
  unfold pk_s
  split
  · omega
  · have : m_p3 (pk_R σ).1 ((pk_R σ).1 17 0) 18 0 = (pk_R σ).1 18 0 := rfl
    omega
end T0
section VEQ
variable {p : Program} {l : Launch} {e : Env} {R : Room} {s : State} {m : MethodId} {args : Array Value} {below : List Frame} {meth : Method} {c : Code} {Q : State → Prop} {nl : Nat} {g : gT} {A : Nat → Prop} {h : fH} {cells slots pc : Nat} {lo lo' : List (Option Value)} {st : List Value} {cc : ByteArray} {ret9 : Option FieldType} {own : String}
theorem v_eqS (F : Fx p l s m args meth c cc nl ret9 own g A) {a : Int32} {off : Int} (tgt : Nat) (d : decode cc pc = .ok (.if_icmp .eq off, 3)) (ht : (pc : Int) + off = (tgt : Int)) (kt : V p l e R s m args below meth c Q nl g A h cells slots tgt lo st) : V p l e R s m args below meth c Q nl g A h cells slots pc lo (.int a :: .int a :: st) :=
  fun H locs ls hP hS hl => lv_icmp_eq F.1 F.2.1 d ht (fun _ => kt H locs ls hP hS hl) (fun q => absurd rfl q)
end VEQ
