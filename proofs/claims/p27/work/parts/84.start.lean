/-! ===== the law: what its start gives ===== -/
theorem start_str {s : State} {b : Nat} {own tx : String} {k : Nat} (h1 : (Cond.stringRef own k tx).before #[Value.ref b] s = true) (h2 : (Cond.exactly (.string own k) "java/lang/String").before #[Value.ref b] s = true) : ∃ a, vk_R own k tx a s := by
  obtain ⟨a, c, cell, kk, e1, -⟩ := Cond.exactly_spec h2
  exact ⟨a, vk_R.of h1 e1⟩
abbrev eDt : Term := .static "java/util/ArrayList" "DEFAULTCAPACITY_EMPTY_ELEMENTDATA" "[Ljava/lang/Object;"
abbrev gC : Cond := Jvm.Cond.and given_1 narrow_1
set_option maxRecDepth 1000000 in
set_option maxHeartbeats 4000000 in
theorem fm_exact : Cond.exactly eDt "[Ljava/lang/Object;" ∈ flatC gC := by decide +kernel
set_option maxRecDepth 1000000 in
set_option maxHeartbeats 4000000 in
theorem fm_arr : Cond.arrayOf eDt (.object "java/lang/Object") ∈ flatC gC := by decide +kernel
set_option maxRecDepth 1000000 in
set_option maxHeartbeats 4000000 in
theorem fm_len : Cond.eq (.length eDt) (.int 0) ∈ flatC gC := by decide +kernel
set_option maxRecDepth 1000000 in
set_option maxHeartbeats 4000000 in
theorem fm_mi : Cond.isRef (.mirror "[Ljava/lang/Object;") ∈ flatC gC := by decide +kernel
set_option maxRecDepth 1000000 in
set_option maxHeartbeats 4000000 in
theorem fm_us : Cond.isRef (.static Bundle.tN "UNASSIGNED_STACK" Bundle.steD) ∈ flatC gC := by decide +kernel
set_option maxRecDepth 1000000 in
set_option maxHeartbeats 4000000 in
theorem fm_ss : Cond.isRef (.static Bundle.tN "SUPPRESSED_SENTINEL" Bundle.listD) ∈ flatC gC := by decide +kernel
set_option maxRecDepth 1000000 in
set_option maxHeartbeats 4000000 in
theorem fm_st : ∀ q ∈ q_strs, Cond.exactly (.string q.1 q.2.1) "java/lang/String" ∈ flatC gC := by decide +kernel
set_option maxRecDepth 100000 in
theorem tm_st : ∀ q ∈ q_strs, Cond.stringRef q.1 q.2.1 q.2.2 ∈ lw_tbl := by decide +kernel
set_option maxRecDepth 100000 in
theorem um_J0 : ∀ w ∈ u_ws RJ0 TJ0 4, w ∈ lw_tbl := by decide +kernel
set_option maxRecDepth 100000 in
theorem um_J4 : ∀ w ∈ u_ws RJ4 TJ4 4, w ∈ lw_tbl := by decide +kernel
theorem lwT_tbl {w : Cond} (h : w ∈ lw_T) : w ∈ lw_tbl := (List.mem_filter.mp h).1
set_option maxRecDepth 100000 in
set_option maxHeartbeats 4000000 in
theorem start_g {s : State} {b : Nat} (hts : ∀ w ∈ lw_tbl, w.before #[Value.ref b] s = true) (hgv : gC.before #[Value.ref b] s = true) : ∃ g : gT, KK g s ∧ ST g (fun q => s.heap.size ≤ q) s s.heap := by
  have hf := flat_of_before _ hgv
  have hA : ∀ a : Nat, a < s.heap.size → ¬ (fun q : Nat => s.heap.size ≤ q) a := fun a h => Nat.not_le.mpr h
  obtain ⟨c0, i0, k0⟩ := u_known (C := RJ0) (T := TJ0) (N := 4) (n := 4) hts um_J0 (hts (Cond.instantiable RJ0 4) (List.mem_of_getElem? (i := 644) (by decide +kernel)))
  obtain ⟨c1, i1, k1⟩ := u_known (C := RJ4) (T := TJ4) (N := 4) (n := 4) hts um_J4 (hts (Cond.instantiable RJ4 4) (List.mem_of_getElem? (i := 477) (by decide +kernel)))
  obtain ⟨c2, i2, k2⟩ := u_known (C := RJx4a65c) (T := TJx4a65c) (N := 3) (n := 3) hts (fun w hw => lwT_tbl (in_Jx4a65c w hw)) (hts (Cond.instantiable RJx4a65c 3) (List.mem_of_getElem? (i := 68) (by decide +kernel)))
  obtain ⟨c3, i3, k3⟩ := u_known (C := RX0) (T := TX0) (N := 5) (n := 5) hts (fun w hw => lwT_tbl (in_X0 w hw)) (hts (Cond.instantiable RX0 5) (List.mem_of_getElem? (i := 121) (by decide +kernel)))
  obtain ⟨c4, i4, k4⟩ := u_known (C := RX1) (T := TX1) (N := 7) (n := 7) hts (fun w hw => lwT_tbl (in_X1 w hw)) (hts (Cond.instantiable RX1 7) (List.mem_of_getElem? (i := 812) (by decide +kernel)))
  obtain ⟨c5, i5, k5⟩ := u_known (C := RX2) (T := TX2) (N := 4) (n := 4) hts (fun w hw => lwT_tbl (in_X2 w hw)) (hts (Cond.instantiable RX2 4) (List.mem_of_getElem? (i := 267) (by decide +kernel)))
  obtain ⟨c6, i6, k6⟩ := u_known (C := RX3) (T := TX3) (N := 4) (n := 4) hts (fun w hw => lwT_tbl (in_X3 w hw)) (hts (Cond.instantiable RX3 4) (List.mem_of_getElem? (i := 62) (by decide +kernel)))
  obtain ⟨c7, i7, k7⟩ := u_known (C := RX4) (T := TX4) (N := 7) (n := 7) hts (fun w hw => lwT_tbl (in_X4 w hw)) (hts (Cond.instantiable RX4 7) (List.mem_of_getElem? (i := 54) (by decide +kernel)))
  obtain ⟨a0, ka0, p0, f0, g0, h0⟩ := Cond.arrayClass_spec (hts _ (lwT_tbl tw_ac0))
  obtain ⟨a1, ka1, p1, f1, g1, h1⟩ := Cond.arrayClass_spec (hts _ (lwT_tbl tw_ac1))
  have hO := hts (Cond.arrayOver (.object "java/lang/Object")) (List.mem_of_getElem? (i := 339) (by decide +kernel))
  have hAI := hts (Cond.arrayOver (.array .int)) (List.mem_of_getElem? (i := 127) (by decide +kernel))
  obtain ⟨pO, a2, ka2, fO2, -, g2, h2, f2⟩ := Cond.arrayOver_spec hO
  obtain ⟨pA, a3, ka3, fA3, g3, h3, f3⟩ := Cond.arrayOver_specA hAI
  obtain ⟨mi, hmi⟩ := va_Mi.of (C := "[Ljava/lang/Object;") (hf _ fm_mi)
  obtain ⟨t, cE, ce, kE, x1, x2, x3, x4, x5, x6, -⟩ := Cond.exactly_spec (hf _ fm_exact)
  obtain ⟨y1, y2⟩ := Cond.arrayOf_spec (hf _ fm_arr) x1 x3
  have z : ce.slots.size = 0 := by
    have hq := hf _ fm_len
    cases hv : (Term.length eDt).eval #[Value.ref b] s none [] s with
    | none => simp [Cond.before, Cond.holds, Cond.value, hv] at hq
    | some v =>
      obtain ⟨a', cell', q1, q2, rfl, q3⟩ := Jvm.Free.SB.Term.length_small hv
      rw [x1] at q1
      cases q1
      obtain ⟨q4, -⟩ := State.arrayAt?_spec q2
      rw [x3] at q4
      cases q4
      have h9 : Int32.ofNat ce.slots.size = 0 := by
        have hq2 : (Cond.eq (.length eDt) (.int 0)).value #[Value.ref b] s none s [] = some true := by
          simpa [Cond.before, Cond.holds] using hq
        rw [Cond.eq_ints hv (show (Term.int 0).eval #[Value.ref b] s none [] s = some (.int 0) from rfl)] at hq2
        exact of_decide_eq_true (Option.some.inj hq2)
      have h8 : (Int32.ofNat ce.slots.size).toInt = (ce.slots.size : Int) := Int32.toInt_ofNat_of_lt (by omega)
      rw [h9] at h8
      have h7 : (0 : Int32).toInt = 0 := by decide
      omega
  refine ⟨((fun k => [c0, c1, c2, c3, c4, c5, c6, c7].getD k c0, fun k => [i0, i1, i2, i3, i4, i5, i6, i7].getD k i0), fun k => [a0, a1, a2, a3, a0, mi].getD k a0, t), ⟨⟨?_, ?_⟩, ?_⟩, ⟨⟨?_, ?_⟩, ⟨?_, ⟨ce, x3, y1, y2, z⟩, ?_⟩, ?_, hmi, hO, hAI⟩⟩
  · intro k q hq
    match k, hq with
    | 0, hq => cases hq; exact k0
    | 1, hq => cases hq; exact k1
    | 2, hq => cases hq; exact k2
    | 3, hq => cases hq; exact k3
    | 4, hq => cases hq; exact k4
    | 5, hq => cases hq; exact k5
    | 6, hq => cases hq; exact k6
    | 7, hq => cases hq; exact k7
    | k + 8, hq =>
      have := (List.getElem?_eq_some_iff.mp hq).1
      exact absurd this (by simp [vwCl])
  · intro k q hq
    match k, hq with
    | 0, hq => cases hq; exact ⟨fun n z => ⟨fun k h => (by cases h), ka0, g0, p0, h0⟩, f0⟩
    | 1, hq => cases hq; exact ⟨fun n z => ⟨fun k h => (by cases h), ka1, g1, p1, h1⟩, f1⟩
    | 2, hq => cases hq; exact ⟨fun n z => ⟨fun k h => (by cases h), ka2, g2, pO, h2⟩, ka2, pO, g2, h2, fO2, f2⟩
    | 3, hq => cases hq; exact ⟨fun n z => ⟨fun k h => (by cases h), ka3, g3, pA, h3⟩, f3⟩
    | k + 4, hq =>
      have := (List.getElem?_eq_some_iff.mp hq).1
      exact absurd this (by simp [qtys])
  · exact fun w hw => va_lwT (u := s) (U := s) hw rfl (hts w (lwT_tbl hw))
  · exact vx_Zqof (hts (Cond.laysStatic Bundle.tN "UNASSIGNED_STACK" Bundle.steD) (List.mem_of_getElem? (i := 205) (by decide +kernel))) (hts (Cond.initialized Bundle.tN) (List.mem_of_getElem? (i := 35) (by decide +kernel))) (hf _ fm_us) hA
  · exact vx_Zqof (hts (Cond.laysStatic Bundle.tN "SUPPRESSED_SENTINEL" Bundle.listD) (List.mem_of_getElem? (i := 207) (by decide +kernel))) (hts (Cond.initialized Bundle.tN) (List.mem_of_getElem? (i := 35) (by decide +kernel))) (hf _ fm_ss) hA
  · exact va_Zref (hts (Cond.laysStatic "java/util/ArrayList" "DEFAULTCAPACITY_EMPTY_ELEMENTDATA" "[Ljava/lang/Object;") (List.mem_of_getElem? (i := 80) (by decide +kernel))) (hts (Cond.initialized "java/util/ArrayList") (List.mem_of_getElem? (i := 30) (by decide +kernel))) x1 hA
  · exact hA t (Array.getElem?_eq_some_iff.mp x3).1
  · exact fun q hq => start_str (hts _ (tm_st q hq)) (hf _ (fm_st q hq))
