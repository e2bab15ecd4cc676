theorem nd_app {h : fH} {new L : List Nat} {q : Nat} (h1 : (new ++ [q]).Nodup) (h2 : L.Nodup) (hf : ∀ y ∈ new, h y = none) (ha : ∀ x ∈ L, h x ≠ none) : (new ++ L).Nodup := by
  rw [List.nodup_append] at h1 ⊢
  exact ⟨h1.1, h2, fun x hx y hy e => ha y hy (by rw [← e]; exact hf x hx)⟩
-- X3_init
set_option maxRecDepth 100000 in
set_option maxHeartbeats 8000000 in
theorem k_X3_init (l : Launch) (g : gT) {h : fH} {a : Nat} (ha : h a = some (.inr (6, [.null, .null, .null, .null]))) : CM l g yX3_init cX3_init 1 none ({ frames := 4, cells := 4, slots := 13, locals := 80 }) [.ref a] (h) (fun v h1 => v = none ∧ ∃ q0 q1 q2 q3 : Nat, ([q3, q2, q1, q0, a] : List Nat).Nodup ∧ h q0 = none ∧ h q1 = none ∧ h q2 = none ∧ h q3 = none ∧ h1 a = some (.inr (6, [.ref q0, .ref q1, .ref q2, .ref q3])) ∧ h1 q0 = some (.inr (2, [.int (iI 0), .ref g.2.2, .int (iI 0)])) ∧ h1 q1 = some (iar (g.2.1 0) 4 (cFil (fun _ => 0) 4 10000)) ∧ h1 q2 = some (iar (g.2.1 0) 4 (cFil (fun _ => 0) 4 10000)) ∧ h1 q3 = some (iar (g.2.1 0) 2 (cFil (fun _ => 0) 2 20000)) ∧ ∀ z x, z ≠ a → h z = some x → h1 z = some x) (noX) := by
  refine CM.of (lo := [some (.ref a)]) (by decide) (Nat.le_of_ble_eq_true rfl) (by simp [Value.category]) rfl ?_
  intro pX eX sX mX bX tX cX AX F htab hmn
  have F : Fx pX l sX mX ([.ref a] : List Value).toArray tX cX cX3_init 1 none RX3 g AX := F
  have hinit : tX.name = "<init>" := hmn
  have fr0 : ∀ z x, z ≠ a → h z = some x → h z = some x := fun z x _ hx => hx
  have nd0 : ([a] : List Nat).Nodup ∧ ∀ x ∈ ([a] : List Nat), h x ≠ none := ⟨List.nodup_cons.mpr ⟨(fun z => by cases z), List.nodup_nil⟩, fun x hx => by rw [List.mem_singleton.mp hx, ha]; exact fun z => by cases z⟩
  refine v_aload_n F (pc := 0) dX3_init_0 rfl ?_
  refine v_objInit F (pc := 1) (tw_m_X3_3) tw_oi tw_oc dX3_init_1 (Nat.le_of_ble_eq_true rfl) (Nat.le_of_ble_eq_true rfl) (by decide) ?_
  refine v_aload_n F (pc := 4) dX3_init_4 rfl ?_
  refine v_new F (pc := 5) fn_X3_9 dX3_init_5 (Nat.le_of_ble_eq_true rfl) (Nat.le_of_ble_eq_true rfl) (fun q_1 nq_1 => ?_)
  have ne_a_q_1 : a ≠ q_1 := fun z_ => by have h_ := ha; rw [z_, nq_1] at h_; cases h_
  obtain ⟨h_2, eh_2⟩ : ∃ z_, z_ = f_up h q_1 (.inr (2, [.int 0, .null, .int 0])) := ⟨_, rfl⟩
  rw [← eh_2]
  have fh_2_a : h_2 a = some (.inr (6, [.null, .null, .null, .null])) := by rw [eh_2]; exact (f_up_n ne_a_q_1).trans ha
  have fh_2_q_1 : h_2 q_1 = some (.inr (2, [.int (iI (0)), .null, .int (iI (0))])) := by rw [eh_2]; exact f_up_s _ _ _
  have frh_2 : ∀ z x, z ≠ a → h z = some x → h_2 z = some x := fun z x hz hx => by rw [eh_2, f_up_n (fun y => by have h_ := fr0 z x hz hx; rw [y, nq_1] at h_; cases h_)]; exact fr0 z x hz hx
  have nb_q_1 : h q_1 = none := nb_of fr0 (Ne.symm ne_a_q_1) nq_1
  have ndh_2 := al_cons (h' := h_2) nd0.1 nd0.2 nq_1 (by rw [fh_2_q_1]; exact fun z => by cases z) (fun x _ hx => by rw [eh_2]; exact f_up_some hx)
  refine v_dup F (pc := 8) dX3_init_8 rfl ?_
  obtain ⟨h_3, eh_3⟩ : ∃ z_, z_ = f_up h_2 q_1 (.inr (2, [.int (iI (0)), .ref g.2.2, .int (iI (0))])) := ⟨_, rfl⟩
  have fh_3_a : h_3 a = some (.inr (6, [.null, .null, .null, .null])) := by rw [eh_3]; exact (f_up_n ne_a_q_1).trans fh_2_a
  have fh_3_q_1 : h_3 q_1 = some (.inr (2, [.int (iI (0)), .ref g.2.2, .int (iI (0))])) := by rw [eh_3]; exact f_up_s _ _ _
  have frh_3 : ∀ z x, z ≠ a → h z = some x → h_3 z = some x := fun z x hz hx => by rw [eh_3, f_up_n (fun y => by rw [y, nb_q_1] at hx; cases hx)]; exact frh_2 z x hz hx
  have ndh_3 : ([q_1, a] : List Nat).Nodup ∧ ∀ x ∈ ([q_1, a] : List Nat), h_3 x ≠ none := ⟨ndh_2.1, fun x hx => by rw [eh_3]; exact f_up_some (ndh_2.2 x hx)⟩
  refine v_callIn F (pc := 9) (As := []) (rest := [.ref q_1, .ref a]) ci_X3_11 ct_Jx4a65c_init_da8c8 rfl (k_Jx4a65c_init_da8c8 l g fh_2_q_1) dX3_init_9 rfl rfl (Nat.le_of_ble_eq_true rfl) (Nat.le_of_ble_eq_true rfl) (Nat.le_of_ble_eq_true rfl) (Nat.le_of_ble_eq_true rfl) (Nat.le_of_ble_eq_true rfl) ?_
  rw [← eh_3]
  obtain ⟨h_4, eh_4⟩ : ∃ z_, z_ = f_up h_3 a (.inr (6, [.ref q_1, .null, .null, .null])) := ⟨_, rfl⟩
  have fh_4_q_1 : h_4 q_1 = some (.inr (2, [.int (iI (0)), .ref g.2.2, .int (iI (0))])) := by rw [eh_4]; exact (f_up_n (Ne.symm ne_a_q_1)).trans fh_3_q_1
  have fh_4_a : h_4 a = some (.inr (6, [.ref q_1, .null, .null, .null])) := by rw [eh_4]; exact f_up_s _ _ _
  have frh_4 : ∀ z x, z ≠ a → h z = some x → h_4 z = some x := fun z x hz hx => by rw [eh_4, f_up_n hz]; exact frh_3 z x hz hx
  have ndh_4 : ([q_1, a] : List Nat).Nodup ∧ ∀ x ∈ ([q_1, a] : List Nat), h_4 x ≠ none := ⟨ndh_3.1, fun x hx => by rw [eh_4]; exact f_up_some (ndh_3.2 x hx)⟩
  refine v_putF F (pc := 12) fp_X3_12_6 dX3_init_12 fh_3_a hinit rfl rfl (Nat.le_of_ble_eq_true rfl) (h' := h_4) eh_4.symm ?_
  refine v_aload_n F (pc := 15) dX3_init_15 rfl ?_
  refine v_iconst F (pc := 16) dX3_init_16 ?_
  refine v_newi F (pc := 17) (n := 4) dX3_init_17 (by decide) (Nat.le_of_ble_eq_true rfl) (Nat.le_of_ble_eq_true rfl) (fun q_5 nq_5 => ?_)
  have ne_a_q_5 : a ≠ q_5 := fun z_ => by have h_ := fh_4_a; rw [z_, nq_5] at h_; cases h_
  have ne_q_1_q_5 : q_1 ≠ q_5 := fun z_ => by have h_ := fh_4_q_1; rw [z_, nq_5] at h_; cases h_
  obtain ⟨h_6, eh_6⟩ : ∃ z_, z_ = f_up h_4 q_5 (iar (g.2.1 0) 4 (fun _ => 0)) := ⟨_, rfl⟩
  rw [← eh_6]
  have fh_6_a : h_6 a = some (.inr (6, [.ref q_1, .null, .null, .null])) := by rw [eh_6]; exact (f_up_n ne_a_q_5).trans fh_4_a
  have fh_6_q_1 : h_6 q_1 = some (.inr (2, [.int (iI (0)), .ref g.2.2, .int (iI (0))])) := by rw [eh_6]; exact (f_up_n ne_q_1_q_5).trans fh_4_q_1
  have fh_6_q_5 : h_6 q_5 = some (iar (g.2.1 0) 4 (fun _ => 0)) := by rw [eh_6]; exact f_up_s _ _ _
  have frh_6 : ∀ z x, z ≠ a → h z = some x → h_6 z = some x := fun z x hz hx => by rw [eh_6, f_up_n (fun y => by have h_ := frh_4 z x hz hx; rw [y, nq_5] at h_; cases h_)]; exact frh_4 z x hz hx
  have nb_q_5 : h q_5 = none := nb_of frh_4 (Ne.symm ne_a_q_5) nq_5
  have ndh_6 := al_cons (h' := h_6) ndh_4.1 ndh_4.2 nq_5 (by rw [fh_6_q_5]; exact fun z => by cases z) (fun x _ hx => by rw [eh_6]; exact f_up_some hx)
  obtain ⟨h_7, eh_7⟩ : ∃ z_, z_ = f_up h_6 a (.inr (6, [.ref q_1, .ref q_5, .null, .null])) := ⟨_, rfl⟩
  have fh_7_q_1 : h_7 q_1 = some (.inr (2, [.int (iI (0)), .ref g.2.2, .int (iI (0))])) := by rw [eh_7]; exact (f_up_n (Ne.symm ne_a_q_1)).trans fh_6_q_1
  have fh_7_q_5 : h_7 q_5 = some (iar (g.2.1 0) 4 (fun _ => 0)) := by rw [eh_7]; exact (f_up_n (Ne.symm ne_a_q_5)).trans fh_6_q_5
  have fh_7_a : h_7 a = some (.inr (6, [.ref q_1, .ref q_5, .null, .null])) := by rw [eh_7]; exact f_up_s _ _ _
  have frh_7 : ∀ z x, z ≠ a → h z = some x → h_7 z = some x := fun z x hz hx => by rw [eh_7, f_up_n hz]; exact frh_6 z x hz hx
  have ndh_7 : ([q_5, q_1, a] : List Nat).Nodup ∧ ∀ x ∈ ([q_5, q_1, a] : List Nat), h_7 x ≠ none := ⟨ndh_6.1, fun x hx => by rw [eh_7]; exact f_up_some (ndh_6.2 x hx)⟩
  refine v_putF F (pc := 19) fp_X3_18_6 dX3_init_19 fh_6_a hinit rfl rfl (Nat.le_of_ble_eq_true rfl) (h' := h_7) eh_7.symm ?_
  refine v_aload_n F (pc := 22) dX3_init_22 rfl ?_
  refine v_iconst F (pc := 23) dX3_init_23 ?_
  refine v_newi F (pc := 24) (n := 4) dX3_init_24 (by decide) (Nat.le_of_ble_eq_true rfl) (Nat.le_of_ble_eq_true rfl) (fun q_8 nq_8 => ?_)
  have ne_a_q_8 : a ≠ q_8 := fun z_ => by have h_ := fh_7_a; rw [z_, nq_8] at h_; cases h_
  have ne_q_1_q_8 : q_1 ≠ q_8 := fun z_ => by have h_ := fh_7_q_1; rw [z_, nq_8] at h_; cases h_
  have ne_q_5_q_8 : q_5 ≠ q_8 := fun z_ => by have h_ := fh_7_q_5; rw [z_, nq_8] at h_; cases h_
  obtain ⟨h_9, eh_9⟩ : ∃ z_, z_ = f_up h_7 q_8 (iar (g.2.1 0) 4 (fun _ => 0)) := ⟨_, rfl⟩
  rw [← eh_9]
  have fh_9_a : h_9 a = some (.inr (6, [.ref q_1, .ref q_5, .null, .null])) := by rw [eh_9]; exact (f_up_n ne_a_q_8).trans fh_7_a
  have fh_9_q_1 : h_9 q_1 = some (.inr (2, [.int (iI (0)), .ref g.2.2, .int (iI (0))])) := by rw [eh_9]; exact (f_up_n ne_q_1_q_8).trans fh_7_q_1
  have fh_9_q_5 : h_9 q_5 = some (iar (g.2.1 0) 4 (fun _ => 0)) := by rw [eh_9]; exact (f_up_n ne_q_5_q_8).trans fh_7_q_5
  have fh_9_q_8 : h_9 q_8 = some (iar (g.2.1 0) 4 (fun _ => 0)) := by rw [eh_9]; exact f_up_s _ _ _
  have frh_9 : ∀ z x, z ≠ a → h z = some x → h_9 z = some x := fun z x hz hx => by rw [eh_9, f_up_n (fun y => by have h_ := frh_7 z x hz hx; rw [y, nq_8] at h_; cases h_)]; exact frh_7 z x hz hx
  have nb_q_8 : h q_8 = none := nb_of frh_7 (Ne.symm ne_a_q_8) nq_8
  have ndh_9 := al_cons (h' := h_9) ndh_7.1 ndh_7.2 nq_8 (by rw [fh_9_q_8]; exact fun z => by cases z) (fun x _ hx => by rw [eh_9]; exact f_up_some hx)
  obtain ⟨h_10, eh_10⟩ : ∃ z_, z_ = f_up h_9 a (.inr (6, [.ref q_1, .ref q_5, .ref q_8, .null])) := ⟨_, rfl⟩
  have fh_10_q_1 : h_10 q_1 = some (.inr (2, [.int (iI (0)), .ref g.2.2, .int (iI (0))])) := by rw [eh_10]; exact (f_up_n (Ne.symm ne_a_q_1)).trans fh_9_q_1
  have fh_10_q_5 : h_10 q_5 = some (iar (g.2.1 0) 4 (fun _ => 0)) := by rw [eh_10]; exact (f_up_n (Ne.symm ne_a_q_5)).trans fh_9_q_5
  have fh_10_q_8 : h_10 q_8 = some (iar (g.2.1 0) 4 (fun _ => 0)) := by rw [eh_10]; exact (f_up_n (Ne.symm ne_a_q_8)).trans fh_9_q_8
  have fh_10_a : h_10 a = some (.inr (6, [.ref q_1, .ref q_5, .ref q_8, .null])) := by rw [eh_10]; exact f_up_s _ _ _
  have frh_10 : ∀ z x, z ≠ a → h z = some x → h_10 z = some x := fun z x hz hx => by rw [eh_10, f_up_n hz]; exact frh_9 z x hz hx
  have ndh_10 : ([q_8, q_5, q_1, a] : List Nat).Nodup ∧ ∀ x ∈ ([q_8, q_5, q_1, a] : List Nat), h_10 x ≠ none := ⟨ndh_9.1, fun x hx => by rw [eh_10]; exact f_up_some (ndh_9.2 x hx)⟩
  refine v_putF F (pc := 26) fp_X3_22_6 dX3_init_26 fh_9_a hinit rfl rfl (Nat.le_of_ble_eq_true rfl) (h' := h_10) eh_10.symm ?_
  refine v_aload_n F (pc := 29) dX3_init_29 rfl ?_
  refine v_iconst F (pc := 30) dX3_init_30 ?_
  refine v_newi F (pc := 31) (n := 2) dX3_init_31 (by decide) (Nat.le_of_ble_eq_true rfl) (Nat.le_of_ble_eq_true rfl) (fun q_11 nq_11 => ?_)
  have ne_a_q_11 : a ≠ q_11 := fun z_ => by have h_ := fh_10_a; rw [z_, nq_11] at h_; cases h_
  have ne_q_1_q_11 : q_1 ≠ q_11 := fun z_ => by have h_ := fh_10_q_1; rw [z_, nq_11] at h_; cases h_
  have ne_q_5_q_11 : q_5 ≠ q_11 := fun z_ => by have h_ := fh_10_q_5; rw [z_, nq_11] at h_; cases h_
  have ne_q_8_q_11 : q_8 ≠ q_11 := fun z_ => by have h_ := fh_10_q_8; rw [z_, nq_11] at h_; cases h_
  obtain ⟨h_12, eh_12⟩ : ∃ z_, z_ = f_up h_10 q_11 (iar (g.2.1 0) 2 (fun _ => 0)) := ⟨_, rfl⟩
  rw [← eh_12]
  have fh_12_a : h_12 a = some (.inr (6, [.ref q_1, .ref q_5, .ref q_8, .null])) := by rw [eh_12]; exact (f_up_n ne_a_q_11).trans fh_10_a
  have fh_12_q_1 : h_12 q_1 = some (.inr (2, [.int (iI (0)), .ref g.2.2, .int (iI (0))])) := by rw [eh_12]; exact (f_up_n ne_q_1_q_11).trans fh_10_q_1
  have fh_12_q_5 : h_12 q_5 = some (iar (g.2.1 0) 4 (fun _ => 0)) := by rw [eh_12]; exact (f_up_n ne_q_5_q_11).trans fh_10_q_5
  have fh_12_q_8 : h_12 q_8 = some (iar (g.2.1 0) 4 (fun _ => 0)) := by rw [eh_12]; exact (f_up_n ne_q_8_q_11).trans fh_10_q_8
  have fh_12_q_11 : h_12 q_11 = some (iar (g.2.1 0) 2 (fun _ => 0)) := by rw [eh_12]; exact f_up_s _ _ _
  have frh_12 : ∀ z x, z ≠ a → h z = some x → h_12 z = some x := fun z x hz hx => by rw [eh_12, f_up_n (fun y => by have h_ := frh_10 z x hz hx; rw [y, nq_11] at h_; cases h_)]; exact frh_10 z x hz hx
  have nb_q_11 : h q_11 = none := nb_of frh_10 (Ne.symm ne_a_q_11) nq_11
  have ndh_12 := al_cons (h' := h_12) ndh_10.1 ndh_10.2 nq_11 (by rw [fh_12_q_11]; exact fun z => by cases z) (fun x _ hx => by rw [eh_12]; exact f_up_some hx)
  obtain ⟨h_13, eh_13⟩ : ∃ z_, z_ = f_up h_12 a (.inr (6, [.ref q_1, .ref q_5, .ref q_8, .ref q_11])) := ⟨_, rfl⟩
  have fh_13_q_1 : h_13 q_1 = some (.inr (2, [.int (iI (0)), .ref g.2.2, .int (iI (0))])) := by rw [eh_13]; exact (f_up_n (Ne.symm ne_a_q_1)).trans fh_12_q_1
  have fh_13_q_5 : h_13 q_5 = some (iar (g.2.1 0) 4 (fun _ => 0)) := by rw [eh_13]; exact (f_up_n (Ne.symm ne_a_q_5)).trans fh_12_q_5
  have fh_13_q_8 : h_13 q_8 = some (iar (g.2.1 0) 4 (fun _ => 0)) := by rw [eh_13]; exact (f_up_n (Ne.symm ne_a_q_8)).trans fh_12_q_8
  have fh_13_q_11 : h_13 q_11 = some (iar (g.2.1 0) 2 (fun _ => 0)) := by rw [eh_13]; exact (f_up_n (Ne.symm ne_a_q_11)).trans fh_12_q_11
  have fh_13_a : h_13 a = some (.inr (6, [.ref q_1, .ref q_5, .ref q_8, .ref q_11])) := by rw [eh_13]; exact f_up_s _ _ _
  have frh_13 : ∀ z x, z ≠ a → h z = some x → h_13 z = some x := fun z x hz hx => by rw [eh_13, f_up_n hz]; exact frh_12 z x hz hx
  have ndh_13 : ([q_11, q_8, q_5, q_1, a] : List Nat).Nodup ∧ ∀ x ∈ ([q_11, q_8, q_5, q_1, a] : List Nat), h_13 x ≠ none := ⟨ndh_12.1, fun x hx => by rw [eh_13]; exact f_up_some (ndh_12.2 x hx)⟩
  refine v_putF F (pc := 33) fp_X3_25_6 dX3_init_33 fh_12_a hinit rfl rfl (Nat.le_of_ble_eq_true rfl) (h' := h_13) eh_13.symm ?_
  refine v_aload_n F (pc := 36) dX3_init_36 rfl ?_
  refine v_getf F (pc := 37) fd_X3_18_6 (v := .ref q_5) dX3_init_37 fh_13_a rfl ?_
  refine v_sipush F (pc := 40) dX3_init_40 (by decide) ?_
  obtain ⟨h_14, eh_14⟩ : ∃ z_, z_ = f_up h_13 q_5 (iar (g.2.1 0) 4 (cFil (fun _ => 0) 4 10000)) := ⟨_, rfl⟩
  have fh_14_a : h_14 a = some (.inr (6, [.ref q_1, .ref q_5, .ref q_8, .ref q_11])) := by rw [eh_14]; exact (f_up_n ne_a_q_5).trans fh_13_a
  have fh_14_q_1 : h_14 q_1 = some (.inr (2, [.int (iI (0)), .ref g.2.2, .int (iI (0))])) := by rw [eh_14]; exact (f_up_n ne_q_1_q_5).trans fh_13_q_1
  have fh_14_q_8 : h_14 q_8 = some (iar (g.2.1 0) 4 (fun _ => 0)) := by rw [eh_14]; exact (f_up_n (Ne.symm ne_q_5_q_8)).trans fh_13_q_8
  have fh_14_q_11 : h_14 q_11 = some (iar (g.2.1 0) 2 (fun _ => 0)) := by rw [eh_14]; exact (f_up_n (Ne.symm ne_q_5_q_11)).trans fh_13_q_11
  have fh_14_q_5 : h_14 q_5 = some (iar (g.2.1 0) 4 (cFil (fun _ => 0) 4 10000)) := by rw [eh_14]; exact f_up_s _ _ _
  have frh_14 : ∀ z x, z ≠ a → h z = some x → h_14 z = some x := fun z x hz hx => by rw [eh_14, f_up_n (fun y => by rw [y, nb_q_5] at hx; cases hx)]; exact frh_13 z x hz hx
  have ndh_14 : ([q_11, q_8, q_5, q_1, a] : List Nat).Nodup ∧ ∀ x ∈ ([q_11, q_8, q_5, q_1, a] : List Nat), h_14 x ≠ none := ⟨ndh_13.1, fun x hx => by rw [eh_14]; exact f_up_some (ndh_13.2 x hx)⟩
  refine v_callSn F (pc := 43) (As := [.ref q_5, .int (iI (10000))]) (rest := []) ci_X3_28 ct_J7_fill_53178 (kl_fill l g fh_13_q_5 (by decide) 10000 (h' := h_14) eh_14.symm) dX3_init_43 rfl rfl (Nat.le_of_ble_eq_true rfl) (Nat.le_of_ble_eq_true rfl) (Nat.le_of_ble_eq_true rfl) (Nat.le_of_ble_eq_true rfl) (Nat.le_of_ble_eq_true rfl) ?_ (fun _ _ z => z.elim)
  refine v_aload_n F (pc := 46) dX3_init_46 rfl ?_
  refine v_getf F (pc := 47) fd_X3_22_6 (v := .ref q_8) dX3_init_47 fh_14_a rfl ?_
  refine v_sipush F (pc := 50) dX3_init_50 (by decide) ?_
  obtain ⟨h_15, eh_15⟩ : ∃ z_, z_ = f_up h_14 q_8 (iar (g.2.1 0) 4 (cFil (fun _ => 0) 4 10000)) := ⟨_, rfl⟩
  have fh_15_a : h_15 a = some (.inr (6, [.ref q_1, .ref q_5, .ref q_8, .ref q_11])) := by rw [eh_15]; exact (f_up_n ne_a_q_8).trans fh_14_a
  have fh_15_q_1 : h_15 q_1 = some (.inr (2, [.int (iI (0)), .ref g.2.2, .int (iI (0))])) := by rw [eh_15]; exact (f_up_n ne_q_1_q_8).trans fh_14_q_1
  have fh_15_q_5 : h_15 q_5 = some (iar (g.2.1 0) 4 (cFil (fun _ => 0) 4 10000)) := by rw [eh_15]; exact (f_up_n ne_q_5_q_8).trans fh_14_q_5
  have fh_15_q_11 : h_15 q_11 = some (iar (g.2.1 0) 2 (fun _ => 0)) := by rw [eh_15]; exact (f_up_n (Ne.symm ne_q_8_q_11)).trans fh_14_q_11
  have fh_15_q_8 : h_15 q_8 = some (iar (g.2.1 0) 4 (cFil (fun _ => 0) 4 10000)) := by rw [eh_15]; exact f_up_s _ _ _
  have frh_15 : ∀ z x, z ≠ a → h z = some x → h_15 z = some x := fun z x hz hx => by rw [eh_15, f_up_n (fun y => by rw [y, nb_q_8] at hx; cases hx)]; exact frh_14 z x hz hx
  have ndh_15 : ([q_11, q_8, q_5, q_1, a] : List Nat).Nodup ∧ ∀ x ∈ ([q_11, q_8, q_5, q_1, a] : List Nat), h_15 x ≠ none := ⟨ndh_14.1, fun x hx => by rw [eh_15]; exact f_up_some (ndh_14.2 x hx)⟩
  refine v_callSn F (pc := 53) (As := [.ref q_8, .int (iI (10000))]) (rest := []) ci_X3_28 ct_J7_fill_53178 (kl_fill l g fh_14_q_8 (by decide) 10000 (h' := h_15) eh_15.symm) dX3_init_53 rfl rfl (Nat.le_of_ble_eq_true rfl) (Nat.le_of_ble_eq_true rfl) (Nat.le_of_ble_eq_true rfl) (Nat.le_of_ble_eq_true rfl) (Nat.le_of_ble_eq_true rfl) ?_ (fun _ _ z => z.elim)
  refine v_aload_n F (pc := 56) dX3_init_56 rfl ?_
  refine v_getf F (pc := 57) fd_X3_25_6 (v := .ref q_11) dX3_init_57 fh_15_a rfl ?_
  refine v_sipush F (pc := 60) dX3_init_60 (by decide) ?_
  obtain ⟨h_16, eh_16⟩ : ∃ z_, z_ = f_up h_15 q_11 (iar (g.2.1 0) 2 (cFil (fun _ => 0) 2 20000)) := ⟨_, rfl⟩
  have fh_16_a : h_16 a = some (.inr (6, [.ref q_1, .ref q_5, .ref q_8, .ref q_11])) := by rw [eh_16]; exact (f_up_n ne_a_q_11).trans fh_15_a
  have fh_16_q_1 : h_16 q_1 = some (.inr (2, [.int (iI (0)), .ref g.2.2, .int (iI (0))])) := by rw [eh_16]; exact (f_up_n ne_q_1_q_11).trans fh_15_q_1
  have fh_16_q_5 : h_16 q_5 = some (iar (g.2.1 0) 4 (cFil (fun _ => 0) 4 10000)) := by rw [eh_16]; exact (f_up_n ne_q_5_q_11).trans fh_15_q_5
  have fh_16_q_8 : h_16 q_8 = some (iar (g.2.1 0) 4 (cFil (fun _ => 0) 4 10000)) := by rw [eh_16]; exact (f_up_n ne_q_8_q_11).trans fh_15_q_8
  have fh_16_q_11 : h_16 q_11 = some (iar (g.2.1 0) 2 (cFil (fun _ => 0) 2 20000)) := by rw [eh_16]; exact f_up_s _ _ _
  have frh_16 : ∀ z x, z ≠ a → h z = some x → h_16 z = some x := fun z x hz hx => by rw [eh_16, f_up_n (fun y => by rw [y, nb_q_11] at hx; cases hx)]; exact frh_15 z x hz hx
  have ndh_16 : ([q_11, q_8, q_5, q_1, a] : List Nat).Nodup ∧ ∀ x ∈ ([q_11, q_8, q_5, q_1, a] : List Nat), h_16 x ≠ none := ⟨ndh_15.1, fun x hx => by rw [eh_16]; exact f_up_some (ndh_15.2 x hx)⟩
  refine v_callSn F (pc := 63) (As := [.ref q_11, .int (iI (20000))]) (rest := []) ci_X3_28 ct_J7_fill_53178 (kl_fill l g fh_15_q_11 (by decide) 20000 (h' := h_16) eh_16.symm) dX3_init_63 rfl rfl (Nat.le_of_ble_eq_true rfl) (Nat.le_of_ble_eq_true rfl) (Nat.le_of_ble_eq_true rfl) (Nat.le_of_ble_eq_true rfl) (Nat.le_of_ble_eq_true rfl) ?_ (fun _ _ z => z.elim)
  refine v_vret F (pc := 66) dX3_init_66 rfl (Nat.le_of_ble_eq_true rfl) (Nat.le_of_ble_eq_true rfl) ?_
  exact ⟨rfl, q_1, q_5, q_8, q_11, ndh_16.1, nb_q_1, nb_q_5, nb_q_8, nb_q_11, fh_16_a, fh_16_q_1, fh_16_q_5, fh_16_q_8, fh_16_q_11, frh_16⟩
-- X0_init
set_option maxRecDepth 100000 in
set_option maxHeartbeats 8000000 in
theorem k_X0_init (l : Launch) (g : gT) {h : fH} {a st : Nat} (ha : h a = some (.inr (3, [.null, .null, .null, .null, .null]))) : CM l g yX0_init cX0_init 2 none ({ frames := 2, cells := 6, slots := 194, locals := 43 }) [.ref a, .ref st] (h) (fun v h1 => v = none ∧ ∃ q0 q1 q2 q3 q4 q5 : Nat, ([q5, q4, q3, q2, q1, q0, a] : List Nat).Nodup ∧ h q0 = none ∧ h q1 = none ∧ h q2 = none ∧ h q3 = none ∧ h q4 = none ∧ h q5 = none ∧ h1 a = some (.inr (3, [.ref st, .ref q0, .ref q1, .ref q2, .ref q3])) ∧ h1 q0 = some (iar (g.2.1 0) 160 (cFil (fun _ => 0) 160 (-1))) ∧ h1 q1 = some (iar (g.2.1 0) 8 (fun _ => 0)) ∧ h1 q2 = some (iar (g.2.1 0) 8 (fun _ => 0)) ∧ h1 q3 = some (qar (g.2.1 3) 2 (fun z => if z ≤ 0 then some q4 else some q5)) ∧ h1 q4 = some (iar (g.2.1 0) 8 (fun _ => 0)) ∧ h1 q5 = some (iar (g.2.1 0) 8 (fun _ => 0)) ∧ ∀ z x, z ≠ a → h z = some x → h1 z = some x) (noX) := by
  refine CM.of (lo := [some (.ref a), some (.ref st)]) (by decide) (Nat.le_of_ble_eq_true rfl) (by simp [Value.category]) rfl ?_
  intro pX eX sX mX bX tX cX AX F htab hmn
  have F : Fx pX l sX mX ([.ref a, .ref st] : List Value).toArray tX cX cX0_init 2 none RX0 g AX := F
  have hinit : tX.name = "<init>" := hmn
  have fr0 : ∀ z x, z ≠ a → h z = some x → h z = some x := fun z x _ hx => hx
  have nd0 : ([a] : List Nat).Nodup ∧ ∀ x ∈ ([a] : List Nat), h x ≠ none := ⟨List.nodup_cons.mpr ⟨(fun z => by cases z), List.nodup_nil⟩, fun x hx => by rw [List.mem_singleton.mp hx, ha]; exact fun z => by cases z⟩
  refine v_aload_n F (pc := 0) dX0_init_0 rfl ?_
  refine v_objInit F (pc := 1) (tw_m_X0_3) tw_oi tw_oc dX0_init_1 (Nat.le_of_ble_eq_true rfl) (Nat.le_of_ble_eq_true rfl) (by decide) ?_
  refine v_aload_n F (pc := 4) dX0_init_4 rfl ?_
  refine v_sipush F (pc := 5) dX0_init_5 (by decide) ?_
  refine v_newi F (pc := 8) (n := 160) dX0_init_8 (by decide) (Nat.le_of_ble_eq_true rfl) (Nat.le_of_ble_eq_true rfl) (fun q_1 nq_1 => ?_)
  have ne_a_q_1 : a ≠ q_1 := fun z_ => by have h_ := ha; rw [z_, nq_1] at h_; cases h_
  obtain ⟨h_2, eh_2⟩ : ∃ z_, z_ = f_up h q_1 (iar (g.2.1 0) 160 (fun _ => 0)) := ⟨_, rfl⟩
  rw [← eh_2]
  have fh_2_a : h_2 a = some (.inr (3, [.null, .null, .null, .null, .null])) := by rw [eh_2]; exact (f_up_n ne_a_q_1).trans ha
  have fh_2_q_1 : h_2 q_1 = some (iar (g.2.1 0) 160 (fun _ => 0)) := by rw [eh_2]; exact f_up_s _ _ _
  have frh_2 : ∀ z x, z ≠ a → h z = some x → h_2 z = some x := fun z x hz hx => by rw [eh_2, f_up_n (fun y => by have h_ := fr0 z x hz hx; rw [y, nq_1] at h_; cases h_)]; exact fr0 z x hz hx
  have nb_q_1 : h q_1 = none := nb_of fr0 (Ne.symm ne_a_q_1) nq_1
  have ndh_2 := al_cons (h' := h_2) nd0.1 nd0.2 nq_1 (by rw [fh_2_q_1]; exact fun z => by cases z) (fun x _ hx => by rw [eh_2]; exact f_up_some hx)
  obtain ⟨h_3, eh_3⟩ : ∃ z_, z_ = f_up h_2 a (.inr (3, [.null, .ref q_1, .null, .null, .null])) := ⟨_, rfl⟩
  have fh_3_q_1 : h_3 q_1 = some (iar (g.2.1 0) 160 (fun _ => 0)) := by rw [eh_3]; exact (f_up_n (Ne.symm ne_a_q_1)).trans fh_2_q_1
  have fh_3_a : h_3 a = some (.inr (3, [.null, .ref q_1, .null, .null, .null])) := by rw [eh_3]; exact f_up_s _ _ _
  have frh_3 : ∀ z x, z ≠ a → h z = some x → h_3 z = some x := fun z x hz hx => by rw [eh_3, f_up_n hz]; exact frh_2 z x hz hx
  have ndh_3 : ([q_1, a] : List Nat).Nodup ∧ ∀ x ∈ ([q_1, a] : List Nat), h_3 x ≠ none := ⟨ndh_2.1, fun x hx => by rw [eh_3]; exact f_up_some (ndh_2.2 x hx)⟩
  refine v_putF F (pc := 10) fp_X0_9_3 dX0_init_10 fh_2_a hinit rfl rfl (Nat.le_of_ble_eq_true rfl) (h' := h_3) eh_3.symm ?_
  refine v_aload_n F (pc := 13) dX0_init_13 rfl ?_
  refine v_bipush F (pc := 14) dX0_init_14 (by decide) ?_
  refine v_newi F (pc := 16) (n := 8) dX0_init_16 (by decide) (Nat.le_of_ble_eq_true rfl) (Nat.le_of_ble_eq_true rfl) (fun q_4 nq_4 => ?_)
  have ne_a_q_4 : a ≠ q_4 := fun z_ => by have h_ := fh_3_a; rw [z_, nq_4] at h_; cases h_
  have ne_q_1_q_4 : q_1 ≠ q_4 := fun z_ => by have h_ := fh_3_q_1; rw [z_, nq_4] at h_; cases h_
  obtain ⟨h_5, eh_5⟩ : ∃ z_, z_ = f_up h_3 q_4 (iar (g.2.1 0) 8 (fun _ => 0)) := ⟨_, rfl⟩
  rw [← eh_5]
  have fh_5_a : h_5 a = some (.inr (3, [.null, .ref q_1, .null, .null, .null])) := by rw [eh_5]; exact (f_up_n ne_a_q_4).trans fh_3_a
  have fh_5_q_1 : h_5 q_1 = some (iar (g.2.1 0) 160 (fun _ => 0)) := by rw [eh_5]; exact (f_up_n ne_q_1_q_4).trans fh_3_q_1
  have fh_5_q_4 : h_5 q_4 = some (iar (g.2.1 0) 8 (fun _ => 0)) := by rw [eh_5]; exact f_up_s _ _ _
  have frh_5 : ∀ z x, z ≠ a → h z = some x → h_5 z = some x := fun z x hz hx => by rw [eh_5, f_up_n (fun y => by have h_ := frh_3 z x hz hx; rw [y, nq_4] at h_; cases h_)]; exact frh_3 z x hz hx
  have nb_q_4 : h q_4 = none := nb_of frh_3 (Ne.symm ne_a_q_4) nq_4
  have ndh_5 := al_cons (h' := h_5) ndh_3.1 ndh_3.2 nq_4 (by rw [fh_5_q_4]; exact fun z => by cases z) (fun x _ hx => by rw [eh_5]; exact f_up_some hx)
  obtain ⟨h_6, eh_6⟩ : ∃ z_, z_ = f_up h_5 a (.inr (3, [.null, .ref q_1, .ref q_4, .null, .null])) := ⟨_, rfl⟩
  have fh_6_q_1 : h_6 q_1 = some (iar (g.2.1 0) 160 (fun _ => 0)) := by rw [eh_6]; exact (f_up_n (Ne.symm ne_a_q_1)).trans fh_5_q_1
  have fh_6_q_4 : h_6 q_4 = some (iar (g.2.1 0) 8 (fun _ => 0)) := by rw [eh_6]; exact (f_up_n (Ne.symm ne_a_q_4)).trans fh_5_q_4
  have fh_6_a : h_6 a = some (.inr (3, [.null, .ref q_1, .ref q_4, .null, .null])) := by rw [eh_6]; exact f_up_s _ _ _
  have frh_6 : ∀ z x, z ≠ a → h z = some x → h_6 z = some x := fun z x hz hx => by rw [eh_6, f_up_n hz]; exact frh_5 z x hz hx
  have ndh_6 : ([q_4, q_1, a] : List Nat).Nodup ∧ ∀ x ∈ ([q_4, q_1, a] : List Nat), h_6 x ≠ none := ⟨ndh_5.1, fun x hx => by rw [eh_6]; exact f_up_some (ndh_5.2 x hx)⟩
  refine v_putF F (pc := 18) fp_X0_15_3 dX0_init_18 fh_5_a hinit rfl rfl (Nat.le_of_ble_eq_true rfl) (h' := h_6) eh_6.symm ?_
  refine v_aload_n F (pc := 21) dX0_init_21 rfl ?_
  refine v_bipush F (pc := 22) dX0_init_22 (by decide) ?_
  refine v_newi F (pc := 24) (n := 8) dX0_init_24 (by decide) (Nat.le_of_ble_eq_true rfl) (Nat.le_of_ble_eq_true rfl) (fun q_7 nq_7 => ?_)
  have ne_a_q_7 : a ≠ q_7 := fun z_ => by have h_ := fh_6_a; rw [z_, nq_7] at h_; cases h_
  have ne_q_1_q_7 : q_1 ≠ q_7 := fun z_ => by have h_ := fh_6_q_1; rw [z_, nq_7] at h_; cases h_
  have ne_q_4_q_7 : q_4 ≠ q_7 := fun z_ => by have h_ := fh_6_q_4; rw [z_, nq_7] at h_; cases h_
  obtain ⟨h_8, eh_8⟩ : ∃ z_, z_ = f_up h_6 q_7 (iar (g.2.1 0) 8 (fun _ => 0)) := ⟨_, rfl⟩
  rw [← eh_8]
  have fh_8_a : h_8 a = some (.inr (3, [.null, .ref q_1, .ref q_4, .null, .null])) := by rw [eh_8]; exact (f_up_n ne_a_q_7).trans fh_6_a
  have fh_8_q_1 : h_8 q_1 = some (iar (g.2.1 0) 160 (fun _ => 0)) := by rw [eh_8]; exact (f_up_n ne_q_1_q_7).trans fh_6_q_1
  have fh_8_q_4 : h_8 q_4 = some (iar (g.2.1 0) 8 (fun _ => 0)) := by rw [eh_8]; exact (f_up_n ne_q_4_q_7).trans fh_6_q_4
  have fh_8_q_7 : h_8 q_7 = some (iar (g.2.1 0) 8 (fun _ => 0)) := by rw [eh_8]; exact f_up_s _ _ _
  have frh_8 : ∀ z x, z ≠ a → h z = some x → h_8 z = some x := fun z x hz hx => by rw [eh_8, f_up_n (fun y => by have h_ := frh_6 z x hz hx; rw [y, nq_7] at h_; cases h_)]; exact frh_6 z x hz hx
  have nb_q_7 : h q_7 = none := nb_of frh_6 (Ne.symm ne_a_q_7) nq_7
  have ndh_8 := al_cons (h' := h_8) ndh_6.1 ndh_6.2 nq_7 (by rw [fh_8_q_7]; exact fun z => by cases z) (fun x _ hx => by rw [eh_8]; exact f_up_some hx)
  obtain ⟨h_9, eh_9⟩ : ∃ z_, z_ = f_up h_8 a (.inr (3, [.null, .ref q_1, .ref q_4, .ref q_7, .null])) := ⟨_, rfl⟩
  have fh_9_q_1 : h_9 q_1 = some (iar (g.2.1 0) 160 (fun _ => 0)) := by rw [eh_9]; exact (f_up_n (Ne.symm ne_a_q_1)).trans fh_8_q_1
  have fh_9_q_4 : h_9 q_4 = some (iar (g.2.1 0) 8 (fun _ => 0)) := by rw [eh_9]; exact (f_up_n (Ne.symm ne_a_q_4)).trans fh_8_q_4
  have fh_9_q_7 : h_9 q_7 = some (iar (g.2.1 0) 8 (fun _ => 0)) := by rw [eh_9]; exact (f_up_n (Ne.symm ne_a_q_7)).trans fh_8_q_7
  have fh_9_a : h_9 a = some (.inr (3, [.null, .ref q_1, .ref q_4, .ref q_7, .null])) := by rw [eh_9]; exact f_up_s _ _ _
  have frh_9 : ∀ z x, z ≠ a → h z = some x → h_9 z = some x := fun z x hz hx => by rw [eh_9, f_up_n hz]; exact frh_8 z x hz hx
  have ndh_9 : ([q_7, q_4, q_1, a] : List Nat).Nodup ∧ ∀ x ∈ ([q_7, q_4, q_1, a] : List Nat), h_9 x ≠ none := ⟨ndh_8.1, fun x hx => by rw [eh_9]; exact f_up_some (ndh_8.2 x hx)⟩
  refine v_putF F (pc := 26) fp_X0_18_3 dX0_init_26 fh_8_a hinit rfl rfl (Nat.le_of_ble_eq_true rfl) (h' := h_9) eh_9.symm ?_
  refine v_aload_n F (pc := 29) dX0_init_29 rfl ?_
  refine v_iconst F (pc := 30) dX0_init_30 ?_
  refine v_bipush F (pc := 31) dX0_init_31 (by decide) ?_
  refine v_mna F (pc := 33) dX0_init_33 (Nat.le_of_ble_eq_true rfl) (Nat.le_of_ble_eq_true rfl) (fun q_10 q_11 q_12 nq_10 nq_11 nq_12 => ?_)
  have ne_a_q_10 : a ≠ q_10 := fun z_ => by have h_ := fh_9_a; rw [z_, nq_10] at h_; cases h_
  have ne_q_1_q_10 : q_1 ≠ q_10 := fun z_ => by have h_ := fh_9_q_1; rw [z_, nq_10] at h_; cases h_
  have ne_q_4_q_10 : q_4 ≠ q_10 := fun z_ => by have h_ := fh_9_q_4; rw [z_, nq_10] at h_; cases h_
  have ne_q_7_q_10 : q_7 ≠ q_10 := fun z_ => by have h_ := fh_9_q_7; rw [z_, nq_10] at h_; cases h_
  obtain ⟨h_13, eh_13⟩ : ∃ z_, z_ = f_up h_9 q_10 (qar (g.2.1 3) 2 (fun z => if z ≤ 0 then some q_11 else some q_12)) := ⟨_, rfl⟩
  rw [← eh_13]
  have fh_13_a : h_13 a = some (.inr (3, [.null, .ref q_1, .ref q_4, .ref q_7, .null])) := by rw [eh_13]; exact (f_up_n ne_a_q_10).trans fh_9_a
  have fh_13_q_1 : h_13 q_1 = some (iar (g.2.1 0) 160 (fun _ => 0)) := by rw [eh_13]; exact (f_up_n ne_q_1_q_10).trans fh_9_q_1
  have fh_13_q_4 : h_13 q_4 = some (iar (g.2.1 0) 8 (fun _ => 0)) := by rw [eh_13]; exact (f_up_n ne_q_4_q_10).trans fh_9_q_4
  have fh_13_q_7 : h_13 q_7 = some (iar (g.2.1 0) 8 (fun _ => 0)) := by rw [eh_13]; exact (f_up_n ne_q_7_q_10).trans fh_9_q_7
  have fh_13_q_10 : h_13 q_10 = some (qar (g.2.1 3) 2 (fun z => if z ≤ 0 then some q_11 else some q_12)) := by rw [eh_13]; exact f_up_s _ _ _
  have frh_13 : ∀ z x, z ≠ a → h z = some x → h_13 z = some x := fun z x hz hx => by rw [eh_13, f_up_n (fun y => by have h_ := frh_9 z x hz hx; rw [y, nq_10] at h_; cases h_)]; exact frh_9 z x hz hx
  have nb_q_10 : h q_10 = none := nb_of frh_9 (Ne.symm ne_a_q_10) nq_10
  have ndh_13 := al_cons (h' := h_13) ndh_9.1 ndh_9.2 nq_10 (by rw [fh_13_q_10]; exact fun z => by cases z) (fun x _ hx => by rw [eh_13]; exact f_up_some hx)
  rw [← eh_13] at nq_11 nq_12
  have ne_a_q_11 : a ≠ q_11 := fun z_ => by have h_ := fh_13_a; rw [z_, nq_11] at h_; cases h_
  have ne_q_1_q_11 : q_1 ≠ q_11 := fun z_ => by have h_ := fh_13_q_1; rw [z_, nq_11] at h_; cases h_
  have ne_q_4_q_11 : q_4 ≠ q_11 := fun z_ => by have h_ := fh_13_q_4; rw [z_, nq_11] at h_; cases h_
  have ne_q_7_q_11 : q_7 ≠ q_11 := fun z_ => by have h_ := fh_13_q_7; rw [z_, nq_11] at h_; cases h_
  have ne_q_10_q_11 : q_10 ≠ q_11 := fun z_ => by have h_ := fh_13_q_10; rw [z_, nq_11] at h_; cases h_
  obtain ⟨h_14, eh_14⟩ : ∃ z_, z_ = f_up h_13 q_11 (iar (g.2.1 0) 8 (fun _ => 0)) := ⟨_, rfl⟩
  rw [← eh_14]
  have fh_14_a : h_14 a = some (.inr (3, [.null, .ref q_1, .ref q_4, .ref q_7, .null])) := by rw [eh_14]; exact (f_up_n ne_a_q_11).trans fh_13_a
  have fh_14_q_1 : h_14 q_1 = some (iar (g.2.1 0) 160 (fun _ => 0)) := by rw [eh_14]; exact (f_up_n ne_q_1_q_11).trans fh_13_q_1
  have fh_14_q_4 : h_14 q_4 = some (iar (g.2.1 0) 8 (fun _ => 0)) := by rw [eh_14]; exact (f_up_n ne_q_4_q_11).trans fh_13_q_4
  have fh_14_q_7 : h_14 q_7 = some (iar (g.2.1 0) 8 (fun _ => 0)) := by rw [eh_14]; exact (f_up_n ne_q_7_q_11).trans fh_13_q_7
  have fh_14_q_10 : h_14 q_10 = some (qar (g.2.1 3) 2 (fun z => if z ≤ 0 then some q_11 else some q_12)) := by rw [eh_14]; exact (f_up_n ne_q_10_q_11).trans fh_13_q_10
  have fh_14_q_11 : h_14 q_11 = some (iar (g.2.1 0) 8 (fun _ => 0)) := by rw [eh_14]; exact f_up_s _ _ _
  have frh_14 : ∀ z x, z ≠ a → h z = some x → h_14 z = some x := fun z x hz hx => by rw [eh_14, f_up_n (fun y => by have h_ := frh_13 z x hz hx; rw [y, nq_11] at h_; cases h_)]; exact frh_13 z x hz hx
  have nb_q_11 : h q_11 = none := nb_of frh_13 (Ne.symm ne_a_q_11) nq_11
  have ndh_14 := al_cons (h' := h_14) ndh_13.1 ndh_13.2 nq_11 (by rw [fh_14_q_11]; exact fun z => by cases z) (fun x _ hx => by rw [eh_14]; exact f_up_some hx)
  rw [← eh_14] at nq_12
  have ne_a_q_12 : a ≠ q_12 := fun z_ => by have h_ := fh_14_a; rw [z_, nq_12] at h_; cases h_
  have ne_q_1_q_12 : q_1 ≠ q_12 := fun z_ => by have h_ := fh_14_q_1; rw [z_, nq_12] at h_; cases h_
  have ne_q_4_q_12 : q_4 ≠ q_12 := fun z_ => by have h_ := fh_14_q_4; rw [z_, nq_12] at h_; cases h_
  have ne_q_7_q_12 : q_7 ≠ q_12 := fun z_ => by have h_ := fh_14_q_7; rw [z_, nq_12] at h_; cases h_
  have ne_q_10_q_12 : q_10 ≠ q_12 := fun z_ => by have h_ := fh_14_q_10; rw [z_, nq_12] at h_; cases h_
  have ne_q_11_q_12 : q_11 ≠ q_12 := fun z_ => by have h_ := fh_14_q_11; rw [z_, nq_12] at h_; cases h_
  obtain ⟨h_15, eh_15⟩ : ∃ z_, z_ = f_up h_14 q_12 (iar (g.2.1 0) 8 (fun _ => 0)) := ⟨_, rfl⟩
  rw [← eh_15]
  have fh_15_a : h_15 a = some (.inr (3, [.null, .ref q_1, .ref q_4, .ref q_7, .null])) := by rw [eh_15]; exact (f_up_n ne_a_q_12).trans fh_14_a
  have fh_15_q_1 : h_15 q_1 = some (iar (g.2.1 0) 160 (fun _ => 0)) := by rw [eh_15]; exact (f_up_n ne_q_1_q_12).trans fh_14_q_1
  have fh_15_q_4 : h_15 q_4 = some (iar (g.2.1 0) 8 (fun _ => 0)) := by rw [eh_15]; exact (f_up_n ne_q_4_q_12).trans fh_14_q_4
  have fh_15_q_7 : h_15 q_7 = some (iar (g.2.1 0) 8 (fun _ => 0)) := by rw [eh_15]; exact (f_up_n ne_q_7_q_12).trans fh_14_q_7
  have fh_15_q_10 : h_15 q_10 = some (qar (g.2.1 3) 2 (fun z => if z ≤ 0 then some q_11 else some q_12)) := by rw [eh_15]; exact (f_up_n ne_q_10_q_12).trans fh_14_q_10
  have fh_15_q_11 : h_15 q_11 = some (iar (g.2.1 0) 8 (fun _ => 0)) := by rw [eh_15]; exact (f_up_n ne_q_11_q_12).trans fh_14_q_11
  have fh_15_q_12 : h_15 q_12 = some (iar (g.2.1 0) 8 (fun _ => 0)) := by rw [eh_15]; exact f_up_s _ _ _
  have frh_15 : ∀ z x, z ≠ a → h z = some x → h_15 z = some x := fun z x hz hx => by rw [eh_15, f_up_n (fun y => by have h_ := frh_14 z x hz hx; rw [y, nq_12] at h_; cases h_)]; exact frh_14 z x hz hx
  have nb_q_12 : h q_12 = none := nb_of frh_14 (Ne.symm ne_a_q_12) nq_12
  have ndh_15 := al_cons (h' := h_15) ndh_14.1 ndh_14.2 nq_12 (by rw [fh_15_q_12]; exact fun z => by cases z) (fun x _ hx => by rw [eh_15]; exact f_up_some hx)
  obtain ⟨h_16, eh_16⟩ : ∃ z_, z_ = f_up h_15 a (.inr (3, [.null, .ref q_1, .ref q_4, .ref q_7, .ref q_10])) := ⟨_, rfl⟩
  have fh_16_q_1 : h_16 q_1 = some (iar (g.2.1 0) 160 (fun _ => 0)) := by rw [eh_16]; exact (f_up_n (Ne.symm ne_a_q_1)).trans fh_15_q_1
  have fh_16_q_4 : h_16 q_4 = some (iar (g.2.1 0) 8 (fun _ => 0)) := by rw [eh_16]; exact (f_up_n (Ne.symm ne_a_q_4)).trans fh_15_q_4
  have fh_16_q_7 : h_16 q_7 = some (iar (g.2.1 0) 8 (fun _ => 0)) := by rw [eh_16]; exact (f_up_n (Ne.symm ne_a_q_7)).trans fh_15_q_7
  have fh_16_q_10 : h_16 q_10 = some (qar (g.2.1 3) 2 (fun z => if z ≤ 0 then some q_11 else some q_12)) := by rw [eh_16]; exact (f_up_n (Ne.symm ne_a_q_10)).trans fh_15_q_10
  have fh_16_q_11 : h_16 q_11 = some (iar (g.2.1 0) 8 (fun _ => 0)) := by rw [eh_16]; exact (f_up_n (Ne.symm ne_a_q_11)).trans fh_15_q_11
  have fh_16_q_12 : h_16 q_12 = some (iar (g.2.1 0) 8 (fun _ => 0)) := by rw [eh_16]; exact (f_up_n (Ne.symm ne_a_q_12)).trans fh_15_q_12
  have fh_16_a : h_16 a = some (.inr (3, [.null, .ref q_1, .ref q_4, .ref q_7, .ref q_10])) := by rw [eh_16]; exact f_up_s _ _ _
  have frh_16 : ∀ z x, z ≠ a → h z = some x → h_16 z = some x := fun z x hz hx => by rw [eh_16, f_up_n hz]; exact frh_15 z x hz hx
  have ndh_16 : ([q_12, q_11, q_10, q_7, q_4, q_1, a] : List Nat).Nodup ∧ ∀ x ∈ ([q_12, q_11, q_10, q_7, q_4, q_1, a] : List Nat), h_16 x ≠ none := ⟨ndh_15.1, fun x hx => by rw [eh_16]; exact f_up_some (ndh_15.2 x hx)⟩
  refine v_putF F (pc := 37) fp_X0_23_3 dX0_init_37 fh_15_a hinit rfl rfl (Nat.le_of_ble_eq_true rfl) (h' := h_16) eh_16.symm ?_
  refine v_aload_n F (pc := 40) dX0_init_40 rfl ?_
  refine v_aload_n F (pc := 41) dX0_init_41 rfl ?_
  obtain ⟨h_17, eh_17⟩ : ∃ z_, z_ = f_up h_16 a (.inr (3, [.ref st, .ref q_1, .ref q_4, .ref q_7, .ref q_10])) := ⟨_, rfl⟩
  have fh_17_q_1 : h_17 q_1 = some (iar (g.2.1 0) 160 (fun _ => 0)) := by rw [eh_17]; exact (f_up_n (Ne.symm ne_a_q_1)).trans fh_16_q_1
  have fh_17_q_4 : h_17 q_4 = some (iar (g.2.1 0) 8 (fun _ => 0)) := by rw [eh_17]; exact (f_up_n (Ne.symm ne_a_q_4)).trans fh_16_q_4
  have fh_17_q_7 : h_17 q_7 = some (iar (g.2.1 0) 8 (fun _ => 0)) := by rw [eh_17]; exact (f_up_n (Ne.symm ne_a_q_7)).trans fh_16_q_7
  have fh_17_q_10 : h_17 q_10 = some (qar (g.2.1 3) 2 (fun z => if z ≤ 0 then some q_11 else some q_12)) := by rw [eh_17]; exact (f_up_n (Ne.symm ne_a_q_10)).trans fh_16_q_10
  have fh_17_q_11 : h_17 q_11 = some (iar (g.2.1 0) 8 (fun _ => 0)) := by rw [eh_17]; exact (f_up_n (Ne.symm ne_a_q_11)).trans fh_16_q_11
  have fh_17_q_12 : h_17 q_12 = some (iar (g.2.1 0) 8 (fun _ => 0)) := by rw [eh_17]; exact (f_up_n (Ne.symm ne_a_q_12)).trans fh_16_q_12
  have fh_17_a : h_17 a = some (.inr (3, [.ref st, .ref q_1, .ref q_4, .ref q_7, .ref q_10])) := by rw [eh_17]; exact f_up_s _ _ _
  have frh_17 : ∀ z x, z ≠ a → h z = some x → h_17 z = some x := fun z x hz hx => by rw [eh_17, f_up_n hz]; exact frh_16 z x hz hx
  have ndh_17 : ([q_12, q_11, q_10, q_7, q_4, q_1, a] : List Nat).Nodup ∧ ∀ x ∈ ([q_12, q_11, q_10, q_7, q_4, q_1, a] : List Nat), h_17 x ≠ none := ⟨ndh_16.1, fun x hx => by rw [eh_17]; exact f_up_some (ndh_16.2 x hx)⟩
  refine v_putF F (pc := 42) fp_X0_26_3 dX0_init_42 fh_16_a hinit rfl rfl (Nat.le_of_ble_eq_true rfl) (h' := h_17) eh_17.symm ?_
  refine v_aload_n F (pc := 45) dX0_init_45 rfl ?_
  refine v_getf F (pc := 46) fd_X0_9_3 (v := .ref q_1) dX0_init_46 fh_17_a rfl ?_
  refine v_iconst F (pc := 49) dX0_init_49 ?_
  obtain ⟨h_18, eh_18⟩ : ∃ z_, z_ = f_up h_17 q_1 (iar (g.2.1 0) 160 (cFil (fun _ => 0) 160 (-1))) := ⟨_, rfl⟩
  have fh_18_a : h_18 a = some (.inr (3, [.ref st, .ref q_1, .ref q_4, .ref q_7, .ref q_10])) := by rw [eh_18]; exact (f_up_n ne_a_q_1).trans fh_17_a
  have fh_18_q_4 : h_18 q_4 = some (iar (g.2.1 0) 8 (fun _ => 0)) := by rw [eh_18]; exact (f_up_n (Ne.symm ne_q_1_q_4)).trans fh_17_q_4
  have fh_18_q_7 : h_18 q_7 = some (iar (g.2.1 0) 8 (fun _ => 0)) := by rw [eh_18]; exact (f_up_n (Ne.symm ne_q_1_q_7)).trans fh_17_q_7
  have fh_18_q_10 : h_18 q_10 = some (qar (g.2.1 3) 2 (fun z => if z ≤ 0 then some q_11 else some q_12)) := by rw [eh_18]; exact (f_up_n (Ne.symm ne_q_1_q_10)).trans fh_17_q_10
  have fh_18_q_11 : h_18 q_11 = some (iar (g.2.1 0) 8 (fun _ => 0)) := by rw [eh_18]; exact (f_up_n (Ne.symm ne_q_1_q_11)).trans fh_17_q_11
  have fh_18_q_12 : h_18 q_12 = some (iar (g.2.1 0) 8 (fun _ => 0)) := by rw [eh_18]; exact (f_up_n (Ne.symm ne_q_1_q_12)).trans fh_17_q_12
  have fh_18_q_1 : h_18 q_1 = some (iar (g.2.1 0) 160 (cFil (fun _ => 0) 160 (-1))) := by rw [eh_18]; exact f_up_s _ _ _
  have frh_18 : ∀ z x, z ≠ a → h z = some x → h_18 z = some x := fun z x hz hx => by rw [eh_18, f_up_n (fun y => by rw [y, nb_q_1] at hx; cases hx)]; exact frh_17 z x hz hx
  have ndh_18 : ([q_12, q_11, q_10, q_7, q_4, q_1, a] : List Nat).Nodup ∧ ∀ x ∈ ([q_12, q_11, q_10, q_7, q_4, q_1, a] : List Nat), h_18 x ≠ none := ⟨ndh_17.1, fun x hx => by rw [eh_18]; exact f_up_some (ndh_17.2 x hx)⟩
  refine v_callSn F (pc := 50) (As := [.ref q_1, .int (iI (-1))]) (rest := []) ci_X0_30 ct_J7_fill_53178 (kl_fill l g fh_17_q_1 (by decide) (-1) (h' := h_18) eh_18.symm) dX0_init_50 rfl rfl (Nat.le_of_ble_eq_true rfl) (Nat.le_of_ble_eq_true rfl) (Nat.le_of_ble_eq_true rfl) (Nat.le_of_ble_eq_true rfl) (Nat.le_of_ble_eq_true rfl) ?_ (fun _ _ z => z.elim)
  refine v_vret F (pc := 53) dX0_init_53 rfl (Nat.le_of_ble_eq_true rfl) (Nat.le_of_ble_eq_true rfl) ?_
  exact ⟨rfl, q_1, q_4, q_7, q_10, q_11, q_12, ndh_18.1, nb_q_1, nb_q_4, nb_q_7, nb_q_10, nb_q_11, nb_q_12, fh_18_a, fh_18_q_1, fh_18_q_4, fh_18_q_7, fh_18_q_10, fh_18_q_11, fh_18_q_12, frh_18⟩
def τ0 : sT := fun f => if f = 6 ∨ f = 13 then cFil (fun _ => 0) 160 (-1) else if f = 20 ∨ f = 21 then cFil (fun _ => 0) 4 10000 else if f = 22 then cFil (fun _ => 0) 2 20000 else fun _ => 0
theorem cl0 {f : Nat} (h : clive (fun _ => 0) f = true) : f < 23 := by
  unfold clive at h
  rw [Bool.or_eq_true] at h
  rcases h with h | h
  · exact of_decide_eq_true h
  · exact absurd rfl (of_decide_eq_true h)
-- X4_init
set_option maxRecDepth 100000 in
set_option maxHeartbeats 8000000 in
theorem k_X4_init (l : Launch) (g : gT) {h : fH} {a : Nat} (ha : h a = some (.inr (7, [.null, .null, .null, .null, .null, .null, .int (iI 0)]))) : CM l g yX4_init cX4_init 1 none ({ frames := 5, cells := 22, slots := 423, locals := 100 }) [.ref a] (h) (fun v h1 => v = none ∧ ∃ P : Nat → Nat, P 0 = a ∧ cok P (fun _ => 0) (fun _ => 0) ∧ ∀ x e, cheap g P (fun _ => 0) (fun _ _ => none) (fun _ => 0) 5 12 τ0 x = some e → h1 x = some e) (noX) := by
  refine CM.of (lo := [some (.ref a)]) (by decide) (Nat.le_of_ble_eq_true rfl) (by simp [Value.category]) rfl ?_
  intro pX eX sX mX bX tX cX AX F htab hmn
  have F : Fx pX l sX mX ([.ref a] : List Value).toArray tX cX cX4_init 1 none RX4 g AX := F
  have hinit : tX.name = "<init>" := hmn
  have fr0 : ∀ z x, z ≠ a → h z = some x → h z = some x := fun z x _ hx => hx
  have nd0 : ([a] : List Nat).Nodup ∧ ∀ x ∈ ([a] : List Nat), h x ≠ none := ⟨List.nodup_cons.mpr ⟨(fun z => by cases z), List.nodup_nil⟩, fun x hx => by rw [List.mem_singleton.mp hx, ha]; exact fun z => by cases z⟩
  refine v_aload_n F (pc := 0) dX4_init_0 rfl ?_
  refine v_objInit F (pc := 1) (tw_m_X4_3) tw_oi tw_oc dX4_init_1 (Nat.le_of_ble_eq_true rfl) (Nat.le_of_ble_eq_true rfl) (by decide) ?_
  refine v_aload_n F (pc := 4) dX4_init_4 rfl ?_
  refine v_new F (pc := 5) fn_X4_9 dX4_init_5 (Nat.le_of_ble_eq_true rfl) (Nat.le_of_ble_eq_true rfl) (fun q_1 nq_1 => ?_)
  have ne_a_q_1 : a ≠ q_1 := fun z_ => by have h_ := ha; rw [z_, nq_1] at h_; cases h_
  obtain ⟨h_2, eh_2⟩ : ∃ z_, z_ = f_up h q_1 (.inr (6, [.null, .null, .null, .null])) := ⟨_, rfl⟩
  rw [← eh_2]
  have fh_2_a : h_2 a = some (.inr (7, [.null, .null, .null, .null, .null, .null, .int (iI (0))])) := by rw [eh_2]; exact (f_up_n ne_a_q_1).trans ha
  have fh_2_q_1 : h_2 q_1 = some (.inr (6, [.null, .null, .null, .null])) := by rw [eh_2]; exact f_up_s _ _ _
  have frh_2 : ∀ z x, z ≠ a → h z = some x → h_2 z = some x := fun z x hz hx => by rw [eh_2, f_up_n (fun y => by have h_ := fr0 z x hz hx; rw [y, nq_1] at h_; cases h_)]; exact fr0 z x hz hx
  have nb_q_1 : h q_1 = none := nb_of fr0 (Ne.symm ne_a_q_1) nq_1
  have ndh_2 := al_cons (h' := h_2) nd0.1 nd0.2 nq_1 (by rw [fh_2_q_1]; exact fun z => by cases z) (fun x _ hx => by rw [eh_2]; exact f_up_some hx)
  refine v_dup F (pc := 8) dX4_init_8 rfl ?_
  refine v_callI F (pc := 9) (As := []) (rest := [.ref q_1, .ref a]) ci_X4_11 ct_X3_init rfl (k_X3_init l g fh_2_q_1) dX4_init_9 rfl rfl (Nat.le_of_ble_eq_true rfl) (Nat.le_of_ble_eq_true rfl) (Nat.le_of_ble_eq_true rfl) (Nat.le_of_ble_eq_true rfl) (Nat.le_of_ble_eq_true rfl) (fun v_ h_ hp_ => ?_)
  obtain ⟨rfl, x_3, x_4, x_5, x_6, ndxhs_7, nx_3, nx_4, nx_5, nx_6, fhs_7_q_1, fhs_7_x_3, fhs_7_x_4, fhs_7_x_5, fhs_7_x_6, frhs_7x⟩ := hp_
  have fhs_7_a : h_ a = some (.inr (7, [.null, .null, .null, .null, .null, .null, .int (iI (0))])) := frhs_7x _ _ ne_a_q_1 fh_2_a
  have ne_a_x_3 : a ≠ x_3 := fun z_ => by have h9_ := fh_2_a; rw [z_, nx_3] at h9_; cases h9_
  have ne_a_x_4 : a ≠ x_4 := fun z_ => by have h9_ := fh_2_a; rw [z_, nx_4] at h9_; cases h9_
  have ne_a_x_5 : a ≠ x_5 := fun z_ => by have h9_ := fh_2_a; rw [z_, nx_5] at h9_; cases h9_
  have ne_a_x_6 : a ≠ x_6 := fun z_ => by have h9_ := fh_2_a; rw [z_, nx_6] at h9_; cases h9_
  have ne_q_1_x_3 : q_1 ≠ x_3 := fun z_ => by have h9_ := fh_2_q_1; rw [z_, nx_3] at h9_; cases h9_
  have ne_q_1_x_4 : q_1 ≠ x_4 := fun z_ => by have h9_ := fh_2_q_1; rw [z_, nx_4] at h9_; cases h9_
  have ne_q_1_x_5 : q_1 ≠ x_5 := fun z_ => by have h9_ := fh_2_q_1; rw [z_, nx_5] at h9_; cases h9_
  have ne_q_1_x_6 : q_1 ≠ x_6 := fun z_ => by have h9_ := fh_2_q_1; rw [z_, nx_6] at h9_; cases h9_
  have frhs_7 : ∀ z x, z ≠ a → h z = some x → h_ z = some x := fun z x hz hx => frhs_7x z x (fun y => by rw [y, nb_q_1] at hx; cases hx) (frh_2 z x hz hx)
  have ndhs_7a : ([x_6, x_5, x_4, x_3, q_1, a] : List Nat).Nodup := nd_app (new := [x_6, x_5, x_4, x_3]) (L := [q_1, a]) (q := q_1) ndxhs_7 ndh_2.1 (fun y hy => by simp only [List.mem_cons, List.not_mem_nil, or_false] at hy; rcases hy with rfl | rfl | rfl | rfl <;> assumption) ndh_2.2
  have ndhs_7 : ([x_6, x_5, x_4, x_3, q_1, a] : List Nat).Nodup ∧ ∀ x ∈ ([x_6, x_5, x_4, x_3, q_1, a] : List Nat), h_ x ≠ none := ⟨ndhs_7a, fun x hx => by
    simp only [List.mem_cons, List.not_mem_nil, or_false] at hx
    rcases hx with rfl | rfl | rfl | rfl | rfl | rfl
    · rw [fhs_7_x_6]; exact fun z => by cases z
    · rw [fhs_7_x_5]; exact fun z => by cases z
    · rw [fhs_7_x_4]; exact fun z => by cases z
    · rw [fhs_7_x_3]; exact fun z => by cases z
    · rw [fhs_7_q_1]; exact fun z => by cases z
    · rw [fhs_7_a]; exact fun z => by cases z⟩
  obtain ⟨hs_7, ehs_7⟩ : ∃ z_, z_ = h_ := ⟨_, rfl⟩
  rw [← ehs_7]
  rw [← ehs_7] at fhs_7_a fhs_7_q_1 fhs_7_x_3 fhs_7_x_4 fhs_7_x_5 fhs_7_x_6 frhs_7 ndhs_7
  clear frhs_7x
  obtain ⟨h_8, eh_8⟩ : ∃ z_, z_ = f_up hs_7 a (.inr (7, [.ref q_1, .null, .null, .null, .null, .null, .int (iI (0))])) := ⟨_, rfl⟩
  have fh_8_q_1 : h_8 q_1 = some (.inr (6, [.ref x_3, .ref x_4, .ref x_5, .ref x_6])) := by rw [eh_8]; exact (f_up_n (Ne.symm ne_a_q_1)).trans fhs_7_q_1
  have fh_8_x_3 : h_8 x_3 = some (.inr (2, [.int (iI (0)), .ref g.2.2, .int (iI (0))])) := by rw [eh_8]; exact (f_up_n (Ne.symm ne_a_x_3)).trans fhs_7_x_3
  have fh_8_x_4 : h_8 x_4 = some (iar (g.2.1 0) 4 (cFil (fun _ => 0) 4 10000)) := by rw [eh_8]; exact (f_up_n (Ne.symm ne_a_x_4)).trans fhs_7_x_4
  have fh_8_x_5 : h_8 x_5 = some (iar (g.2.1 0) 4 (cFil (fun _ => 0) 4 10000)) := by rw [eh_8]; exact (f_up_n (Ne.symm ne_a_x_5)).trans fhs_7_x_5
  have fh_8_x_6 : h_8 x_6 = some (iar (g.2.1 0) 2 (cFil (fun _ => 0) 2 20000)) := by rw [eh_8]; exact (f_up_n (Ne.symm ne_a_x_6)).trans fhs_7_x_6
  have fh_8_a : h_8 a = some (.inr (7, [.ref q_1, .null, .null, .null, .null, .null, .int (iI (0))])) := by rw [eh_8]; exact f_up_s _ _ _
  have frh_8 : ∀ z x, z ≠ a → h z = some x → h_8 z = some x := fun z x hz hx => by rw [eh_8, f_up_n hz]; exact frhs_7 z x hz hx
  have ndh_8 : ([x_6, x_5, x_4, x_3, q_1, a] : List Nat).Nodup ∧ ∀ x ∈ ([x_6, x_5, x_4, x_3, q_1, a] : List Nat), h_8 x ≠ none := ⟨ndhs_7.1, fun x hx => by rw [eh_8]; exact f_up_some (ndhs_7.2 x hx)⟩
  refine v_putF F (pc := 12) fp_X4_12_7 dX4_init_12 fhs_7_a hinit rfl rfl (Nat.le_of_ble_eq_true rfl) (h' := h_8) eh_8.symm ?_
  refine v_aload_n F (pc := 15) dX4_init_15 rfl ?_
  refine v_iconst F (pc := 16) dX4_init_16 ?_
  refine v_newz F (pc := 17) (n := 2) dX4_init_17 (by decide) (Nat.le_of_ble_eq_true rfl) (Nat.le_of_ble_eq_true rfl) (fun q_9 nq_9 => ?_)
  have ne_a_q_9 : a ≠ q_9 := fun z_ => by have h_ := fh_8_a; rw [z_, nq_9] at h_; cases h_
  have ne_q_1_q_9 : q_1 ≠ q_9 := fun z_ => by have h_ := fh_8_q_1; rw [z_, nq_9] at h_; cases h_
  have ne_x_3_q_9 : x_3 ≠ q_9 := fun z_ => by have h_ := fh_8_x_3; rw [z_, nq_9] at h_; cases h_
  have ne_x_4_q_9 : x_4 ≠ q_9 := fun z_ => by have h_ := fh_8_x_4; rw [z_, nq_9] at h_; cases h_
  have ne_x_5_q_9 : x_5 ≠ q_9 := fun z_ => by have h_ := fh_8_x_5; rw [z_, nq_9] at h_; cases h_
  have ne_x_6_q_9 : x_6 ≠ q_9 := fun z_ => by have h_ := fh_8_x_6; rw [z_, nq_9] at h_; cases h_
  obtain ⟨h_10, eh_10⟩ : ∃ z_, z_ = f_up h_8 q_9 (iar (g.2.1 1) 2 (fun _ => 0)) := ⟨_, rfl⟩
  rw [← eh_10]
  have fh_10_a : h_10 a = some (.inr (7, [.ref q_1, .null, .null, .null, .null, .null, .int (iI (0))])) := by rw [eh_10]; exact (f_up_n ne_a_q_9).trans fh_8_a
  have fh_10_q_1 : h_10 q_1 = some (.inr (6, [.ref x_3, .ref x_4, .ref x_5, .ref x_6])) := by rw [eh_10]; exact (f_up_n ne_q_1_q_9).trans fh_8_q_1
  have fh_10_x_3 : h_10 x_3 = some (.inr (2, [.int (iI (0)), .ref g.2.2, .int (iI (0))])) := by rw [eh_10]; exact (f_up_n ne_x_3_q_9).trans fh_8_x_3
  have fh_10_x_4 : h_10 x_4 = some (iar (g.2.1 0) 4 (cFil (fun _ => 0) 4 10000)) := by rw [eh_10]; exact (f_up_n ne_x_4_q_9).trans fh_8_x_4
  have fh_10_x_5 : h_10 x_5 = some (iar (g.2.1 0) 4 (cFil (fun _ => 0) 4 10000)) := by rw [eh_10]; exact (f_up_n ne_x_5_q_9).trans fh_8_x_5
  have fh_10_x_6 : h_10 x_6 = some (iar (g.2.1 0) 2 (cFil (fun _ => 0) 2 20000)) := by rw [eh_10]; exact (f_up_n ne_x_6_q_9).trans fh_8_x_6
  have fh_10_q_9 : h_10 q_9 = some (iar (g.2.1 1) 2 (fun _ => 0)) := by rw [eh_10]; exact f_up_s _ _ _
  have frh_10 : ∀ z x, z ≠ a → h z = some x → h_10 z = some x := fun z x hz hx => by rw [eh_10, f_up_n (fun y => by have h_ := frh_8 z x hz hx; rw [y, nq_9] at h_; cases h_)]; exact frh_8 z x hz hx
  have nb_q_9 : h q_9 = none := nb_of frh_8 (Ne.symm ne_a_q_9) nq_9
  have ndh_10 := al_cons (h' := h_10) ndh_8.1 ndh_8.2 nq_9 (by rw [fh_10_q_9]; exact fun z => by cases z) (fun x _ hx => by rw [eh_10]; exact f_up_some hx)
  obtain ⟨h_11, eh_11⟩ : ∃ z_, z_ = f_up h_10 a (.inr (7, [.ref q_1, .ref q_9, .null, .null, .null, .null, .int (iI (0))])) := ⟨_, rfl⟩
  have fh_11_q_1 : h_11 q_1 = some (.inr (6, [.ref x_3, .ref x_4, .ref x_5, .ref x_6])) := by rw [eh_11]; exact (f_up_n (Ne.symm ne_a_q_1)).trans fh_10_q_1
  have fh_11_x_3 : h_11 x_3 = some (.inr (2, [.int (iI (0)), .ref g.2.2, .int (iI (0))])) := by rw [eh_11]; exact (f_up_n (Ne.symm ne_a_x_3)).trans fh_10_x_3
  have fh_11_x_4 : h_11 x_4 = some (iar (g.2.1 0) 4 (cFil (fun _ => 0) 4 10000)) := by rw [eh_11]; exact (f_up_n (Ne.symm ne_a_x_4)).trans fh_10_x_4
  have fh_11_x_5 : h_11 x_5 = some (iar (g.2.1 0) 4 (cFil (fun _ => 0) 4 10000)) := by rw [eh_11]; exact (f_up_n (Ne.symm ne_a_x_5)).trans fh_10_x_5
  have fh_11_x_6 : h_11 x_6 = some (iar (g.2.1 0) 2 (cFil (fun _ => 0) 2 20000)) := by rw [eh_11]; exact (f_up_n (Ne.symm ne_a_x_6)).trans fh_10_x_6
  have fh_11_q_9 : h_11 q_9 = some (iar (g.2.1 1) 2 (fun _ => 0)) := by rw [eh_11]; exact (f_up_n (Ne.symm ne_a_q_9)).trans fh_10_q_9
  have fh_11_a : h_11 a = some (.inr (7, [.ref q_1, .ref q_9, .null, .null, .null, .null, .int (iI (0))])) := by rw [eh_11]; exact f_up_s _ _ _
  have frh_11 : ∀ z x, z ≠ a → h z = some x → h_11 z = some x := fun z x hz hx => by rw [eh_11, f_up_n hz]; exact frh_10 z x hz hx
  have ndh_11 : ([q_9, x_6, x_5, x_4, x_3, q_1, a] : List Nat).Nodup ∧ ∀ x ∈ ([q_9, x_6, x_5, x_4, x_3, q_1, a] : List Nat), h_11 x ≠ none := ⟨ndh_10.1, fun x hx => by rw [eh_11]; exact f_up_some (ndh_10.2 x hx)⟩
  refine v_putF F (pc := 19) fp_X4_16_7 dX4_init_19 fh_10_a hinit rfl rfl (Nat.le_of_ble_eq_true rfl) (h' := h_11) eh_11.symm ?_
  refine v_aload_n F (pc := 22) dX4_init_22 rfl ?_
  refine v_new F (pc := 23) fn_X4_20 dX4_init_23 (Nat.le_of_ble_eq_true rfl) (Nat.le_of_ble_eq_true rfl) (fun q_12 nq_12 => ?_)
  have ne_a_q_12 : a ≠ q_12 := fun z_ => by have h_ := fh_11_a; rw [z_, nq_12] at h_; cases h_
  have ne_q_1_q_12 : q_1 ≠ q_12 := fun z_ => by have h_ := fh_11_q_1; rw [z_, nq_12] at h_; cases h_
  have ne_x_3_q_12 : x_3 ≠ q_12 := fun z_ => by have h_ := fh_11_x_3; rw [z_, nq_12] at h_; cases h_
  have ne_x_4_q_12 : x_4 ≠ q_12 := fun z_ => by have h_ := fh_11_x_4; rw [z_, nq_12] at h_; cases h_
  have ne_x_5_q_12 : x_5 ≠ q_12 := fun z_ => by have h_ := fh_11_x_5; rw [z_, nq_12] at h_; cases h_
  have ne_x_6_q_12 : x_6 ≠ q_12 := fun z_ => by have h_ := fh_11_x_6; rw [z_, nq_12] at h_; cases h_
  have ne_q_9_q_12 : q_9 ≠ q_12 := fun z_ => by have h_ := fh_11_q_9; rw [z_, nq_12] at h_; cases h_
  obtain ⟨h_13, eh_13⟩ : ∃ z_, z_ = f_up h_11 q_12 (.inr (2, [.int 0, .null, .int 0])) := ⟨_, rfl⟩
  rw [← eh_13]
  have fh_13_a : h_13 a = some (.inr (7, [.ref q_1, .ref q_9, .null, .null, .null, .null, .int (iI (0))])) := by rw [eh_13]; exact (f_up_n ne_a_q_12).trans fh_11_a
  have fh_13_q_1 : h_13 q_1 = some (.inr (6, [.ref x_3, .ref x_4, .ref x_5, .ref x_6])) := by rw [eh_13]; exact (f_up_n ne_q_1_q_12).trans fh_11_q_1
  have fh_13_x_3 : h_13 x_3 = some (.inr (2, [.int (iI (0)), .ref g.2.2, .int (iI (0))])) := by rw [eh_13]; exact (f_up_n ne_x_3_q_12).trans fh_11_x_3
  have fh_13_x_4 : h_13 x_4 = some (iar (g.2.1 0) 4 (cFil (fun _ => 0) 4 10000)) := by rw [eh_13]; exact (f_up_n ne_x_4_q_12).trans fh_11_x_4
  have fh_13_x_5 : h_13 x_5 = some (iar (g.2.1 0) 4 (cFil (fun _ => 0) 4 10000)) := by rw [eh_13]; exact (f_up_n ne_x_5_q_12).trans fh_11_x_5
  have fh_13_x_6 : h_13 x_6 = some (iar (g.2.1 0) 2 (cFil (fun _ => 0) 2 20000)) := by rw [eh_13]; exact (f_up_n ne_x_6_q_12).trans fh_11_x_6
  have fh_13_q_9 : h_13 q_9 = some (iar (g.2.1 1) 2 (fun _ => 0)) := by rw [eh_13]; exact (f_up_n ne_q_9_q_12).trans fh_11_q_9
  have fh_13_q_12 : h_13 q_12 = some (.inr (2, [.int (iI (0)), .null, .int (iI (0))])) := by rw [eh_13]; exact f_up_s _ _ _
  have frh_13 : ∀ z x, z ≠ a → h z = some x → h_13 z = some x := fun z x hz hx => by rw [eh_13, f_up_n (fun y => by have h_ := frh_11 z x hz hx; rw [y, nq_12] at h_; cases h_)]; exact frh_11 z x hz hx
  have nb_q_12 : h q_12 = none := nb_of frh_11 (Ne.symm ne_a_q_12) nq_12
  have ndh_13 := al_cons (h' := h_13) ndh_11.1 ndh_11.2 nq_12 (by rw [fh_13_q_12]; exact fun z => by cases z) (fun x _ hx => by rw [eh_13]; exact f_up_some hx)
  refine v_dup F (pc := 26) dX4_init_26 rfl ?_
  obtain ⟨h_14, eh_14⟩ : ∃ z_, z_ = f_up h_13 q_12 (.inr (2, [.int (iI (0)), .ref g.2.2, .int (iI (0))])) := ⟨_, rfl⟩
  have fh_14_a : h_14 a = some (.inr (7, [.ref q_1, .ref q_9, .null, .null, .null, .null, .int (iI (0))])) := by rw [eh_14]; exact (f_up_n ne_a_q_12).trans fh_13_a
  have fh_14_q_1 : h_14 q_1 = some (.inr (6, [.ref x_3, .ref x_4, .ref x_5, .ref x_6])) := by rw [eh_14]; exact (f_up_n ne_q_1_q_12).trans fh_13_q_1
  have fh_14_x_3 : h_14 x_3 = some (.inr (2, [.int (iI (0)), .ref g.2.2, .int (iI (0))])) := by rw [eh_14]; exact (f_up_n ne_x_3_q_12).trans fh_13_x_3
  have fh_14_x_4 : h_14 x_4 = some (iar (g.2.1 0) 4 (cFil (fun _ => 0) 4 10000)) := by rw [eh_14]; exact (f_up_n ne_x_4_q_12).trans fh_13_x_4
  have fh_14_x_5 : h_14 x_5 = some (iar (g.2.1 0) 4 (cFil (fun _ => 0) 4 10000)) := by rw [eh_14]; exact (f_up_n ne_x_5_q_12).trans fh_13_x_5
  have fh_14_x_6 : h_14 x_6 = some (iar (g.2.1 0) 2 (cFil (fun _ => 0) 2 20000)) := by rw [eh_14]; exact (f_up_n ne_x_6_q_12).trans fh_13_x_6
  have fh_14_q_9 : h_14 q_9 = some (iar (g.2.1 1) 2 (fun _ => 0)) := by rw [eh_14]; exact (f_up_n ne_q_9_q_12).trans fh_13_q_9
  have fh_14_q_12 : h_14 q_12 = some (.inr (2, [.int (iI (0)), .ref g.2.2, .int (iI (0))])) := by rw [eh_14]; exact f_up_s _ _ _
  have frh_14 : ∀ z x, z ≠ a → h z = some x → h_14 z = some x := fun z x hz hx => by rw [eh_14, f_up_n (fun y => by rw [y, nb_q_12] at hx; cases hx)]; exact frh_13 z x hz hx
  have ndh_14 : ([q_12, q_9, x_6, x_5, x_4, x_3, q_1, a] : List Nat).Nodup ∧ ∀ x ∈ ([q_12, q_9, x_6, x_5, x_4, x_3, q_1, a] : List Nat), h_14 x ≠ none := ⟨ndh_13.1, fun x hx => by rw [eh_14]; exact f_up_some (ndh_13.2 x hx)⟩
  refine v_callIn F (pc := 27) (As := []) (rest := [.ref q_12, .ref a]) ci_X4_22 ct_Jx4a65c_init_da8c8 rfl (k_Jx4a65c_init_da8c8 l g fh_13_q_12) dX4_init_27 rfl rfl (Nat.le_of_ble_eq_true rfl) (Nat.le_of_ble_eq_true rfl) (Nat.le_of_ble_eq_true rfl) (Nat.le_of_ble_eq_true rfl) (Nat.le_of_ble_eq_true rfl) ?_
  rw [← eh_14]
  obtain ⟨h_15, eh_15⟩ : ∃ z_, z_ = f_up h_14 a (.inr (7, [.ref q_1, .ref q_9, .ref q_12, .null, .null, .null, .int (iI (0))])) := ⟨_, rfl⟩
  have fh_15_q_1 : h_15 q_1 = some (.inr (6, [.ref x_3, .ref x_4, .ref x_5, .ref x_6])) := by rw [eh_15]; exact (f_up_n (Ne.symm ne_a_q_1)).trans fh_14_q_1
  have fh_15_x_3 : h_15 x_3 = some (.inr (2, [.int (iI (0)), .ref g.2.2, .int (iI (0))])) := by rw [eh_15]; exact (f_up_n (Ne.symm ne_a_x_3)).trans fh_14_x_3
  have fh_15_x_4 : h_15 x_4 = some (iar (g.2.1 0) 4 (cFil (fun _ => 0) 4 10000)) := by rw [eh_15]; exact (f_up_n (Ne.symm ne_a_x_4)).trans fh_14_x_4
  have fh_15_x_5 : h_15 x_5 = some (iar (g.2.1 0) 4 (cFil (fun _ => 0) 4 10000)) := by rw [eh_15]; exact (f_up_n (Ne.symm ne_a_x_5)).trans fh_14_x_5
  have fh_15_x_6 : h_15 x_6 = some (iar (g.2.1 0) 2 (cFil (fun _ => 0) 2 20000)) := by rw [eh_15]; exact (f_up_n (Ne.symm ne_a_x_6)).trans fh_14_x_6
  have fh_15_q_9 : h_15 q_9 = some (iar (g.2.1 1) 2 (fun _ => 0)) := by rw [eh_15]; exact (f_up_n (Ne.symm ne_a_q_9)).trans fh_14_q_9
  have fh_15_q_12 : h_15 q_12 = some (.inr (2, [.int (iI (0)), .ref g.2.2, .int (iI (0))])) := by rw [eh_15]; exact (f_up_n (Ne.symm ne_a_q_12)).trans fh_14_q_12
  have fh_15_a : h_15 a = some (.inr (7, [.ref q_1, .ref q_9, .ref q_12, .null, .null, .null, .int (iI (0))])) := by rw [eh_15]; exact f_up_s _ _ _
  have frh_15 : ∀ z x, z ≠ a → h z = some x → h_15 z = some x := fun z x hz hx => by rw [eh_15, f_up_n hz]; exact frh_14 z x hz hx
  have ndh_15 : ([q_12, q_9, x_6, x_5, x_4, x_3, q_1, a] : List Nat).Nodup ∧ ∀ x ∈ ([q_12, q_9, x_6, x_5, x_4, x_3, q_1, a] : List Nat), h_15 x ≠ none := ⟨ndh_14.1, fun x hx => by rw [eh_15]; exact f_up_some (ndh_14.2 x hx)⟩
  refine v_putF F (pc := 30) fp_X4_23_7 dX4_init_30 fh_14_a hinit rfl rfl (Nat.le_of_ble_eq_true rfl) (h' := h_15) eh_15.symm ?_
  refine v_aload_n F (pc := 33) dX4_init_33 rfl ?_
  refine v_new F (pc := 34) fn_X4_20 dX4_init_34 (Nat.le_of_ble_eq_true rfl) (Nat.le_of_ble_eq_true rfl) (fun q_16 nq_16 => ?_)
  have ne_a_q_16 : a ≠ q_16 := fun z_ => by have h_ := fh_15_a; rw [z_, nq_16] at h_; cases h_
  have ne_q_1_q_16 : q_1 ≠ q_16 := fun z_ => by have h_ := fh_15_q_1; rw [z_, nq_16] at h_; cases h_
  have ne_x_3_q_16 : x_3 ≠ q_16 := fun z_ => by have h_ := fh_15_x_3; rw [z_, nq_16] at h_; cases h_
  have ne_x_4_q_16 : x_4 ≠ q_16 := fun z_ => by have h_ := fh_15_x_4; rw [z_, nq_16] at h_; cases h_
  have ne_x_5_q_16 : x_5 ≠ q_16 := fun z_ => by have h_ := fh_15_x_5; rw [z_, nq_16] at h_; cases h_
  have ne_x_6_q_16 : x_6 ≠ q_16 := fun z_ => by have h_ := fh_15_x_6; rw [z_, nq_16] at h_; cases h_
  have ne_q_9_q_16 : q_9 ≠ q_16 := fun z_ => by have h_ := fh_15_q_9; rw [z_, nq_16] at h_; cases h_
  have ne_q_12_q_16 : q_12 ≠ q_16 := fun z_ => by have h_ := fh_15_q_12; rw [z_, nq_16] at h_; cases h_
  obtain ⟨h_17, eh_17⟩ : ∃ z_, z_ = f_up h_15 q_16 (.inr (2, [.int 0, .null, .int 0])) := ⟨_, rfl⟩
  rw [← eh_17]
  have fh_17_a : h_17 a = some (.inr (7, [.ref q_1, .ref q_9, .ref q_12, .null, .null, .null, .int (iI (0))])) := by rw [eh_17]; exact (f_up_n ne_a_q_16).trans fh_15_a
  have fh_17_q_1 : h_17 q_1 = some (.inr (6, [.ref x_3, .ref x_4, .ref x_5, .ref x_6])) := by rw [eh_17]; exact (f_up_n ne_q_1_q_16).trans fh_15_q_1
  have fh_17_x_3 : h_17 x_3 = some (.inr (2, [.int (iI (0)), .ref g.2.2, .int (iI (0))])) := by rw [eh_17]; exact (f_up_n ne_x_3_q_16).trans fh_15_x_3
  have fh_17_x_4 : h_17 x_4 = some (iar (g.2.1 0) 4 (cFil (fun _ => 0) 4 10000)) := by rw [eh_17]; exact (f_up_n ne_x_4_q_16).trans fh_15_x_4
  have fh_17_x_5 : h_17 x_5 = some (iar (g.2.1 0) 4 (cFil (fun _ => 0) 4 10000)) := by rw [eh_17]; exact (f_up_n ne_x_5_q_16).trans fh_15_x_5
  have fh_17_x_6 : h_17 x_6 = some (iar (g.2.1 0) 2 (cFil (fun _ => 0) 2 20000)) := by rw [eh_17]; exact (f_up_n ne_x_6_q_16).trans fh_15_x_6
  have fh_17_q_9 : h_17 q_9 = some (iar (g.2.1 1) 2 (fun _ => 0)) := by rw [eh_17]; exact (f_up_n ne_q_9_q_16).trans fh_15_q_9
  have fh_17_q_12 : h_17 q_12 = some (.inr (2, [.int (iI (0)), .ref g.2.2, .int (iI (0))])) := by rw [eh_17]; exact (f_up_n ne_q_12_q_16).trans fh_15_q_12
  have fh_17_q_16 : h_17 q_16 = some (.inr (2, [.int (iI (0)), .null, .int (iI (0))])) := by rw [eh_17]; exact f_up_s _ _ _
  have frh_17 : ∀ z x, z ≠ a → h z = some x → h_17 z = some x := fun z x hz hx => by rw [eh_17, f_up_n (fun y => by have h_ := frh_15 z x hz hx; rw [y, nq_16] at h_; cases h_)]; exact frh_15 z x hz hx
  have nb_q_16 : h q_16 = none := nb_of frh_15 (Ne.symm ne_a_q_16) nq_16
  have ndh_17 := al_cons (h' := h_17) ndh_15.1 ndh_15.2 nq_16 (by rw [fh_17_q_16]; exact fun z => by cases z) (fun x _ hx => by rw [eh_17]; exact f_up_some hx)
  refine v_dup F (pc := 37) dX4_init_37 rfl ?_
  obtain ⟨h_18, eh_18⟩ : ∃ z_, z_ = f_up h_17 q_16 (.inr (2, [.int (iI (0)), .ref g.2.2, .int (iI (0))])) := ⟨_, rfl⟩
  have fh_18_a : h_18 a = some (.inr (7, [.ref q_1, .ref q_9, .ref q_12, .null, .null, .null, .int (iI (0))])) := by rw [eh_18]; exact (f_up_n ne_a_q_16).trans fh_17_a
  have fh_18_q_1 : h_18 q_1 = some (.inr (6, [.ref x_3, .ref x_4, .ref x_5, .ref x_6])) := by rw [eh_18]; exact (f_up_n ne_q_1_q_16).trans fh_17_q_1
  have fh_18_x_3 : h_18 x_3 = some (.inr (2, [.int (iI (0)), .ref g.2.2, .int (iI (0))])) := by rw [eh_18]; exact (f_up_n ne_x_3_q_16).trans fh_17_x_3
  have fh_18_x_4 : h_18 x_4 = some (iar (g.2.1 0) 4 (cFil (fun _ => 0) 4 10000)) := by rw [eh_18]; exact (f_up_n ne_x_4_q_16).trans fh_17_x_4
  have fh_18_x_5 : h_18 x_5 = some (iar (g.2.1 0) 4 (cFil (fun _ => 0) 4 10000)) := by rw [eh_18]; exact (f_up_n ne_x_5_q_16).trans fh_17_x_5
  have fh_18_x_6 : h_18 x_6 = some (iar (g.2.1 0) 2 (cFil (fun _ => 0) 2 20000)) := by rw [eh_18]; exact (f_up_n ne_x_6_q_16).trans fh_17_x_6
  have fh_18_q_9 : h_18 q_9 = some (iar (g.2.1 1) 2 (fun _ => 0)) := by rw [eh_18]; exact (f_up_n ne_q_9_q_16).trans fh_17_q_9
  have fh_18_q_12 : h_18 q_12 = some (.inr (2, [.int (iI (0)), .ref g.2.2, .int (iI (0))])) := by rw [eh_18]; exact (f_up_n ne_q_12_q_16).trans fh_17_q_12
  have fh_18_q_16 : h_18 q_16 = some (.inr (2, [.int (iI (0)), .ref g.2.2, .int (iI (0))])) := by rw [eh_18]; exact f_up_s _ _ _
  have frh_18 : ∀ z x, z ≠ a → h z = some x → h_18 z = some x := fun z x hz hx => by rw [eh_18, f_up_n (fun y => by rw [y, nb_q_16] at hx; cases hx)]; exact frh_17 z x hz hx
  have ndh_18 : ([q_16, q_12, q_9, x_6, x_5, x_4, x_3, q_1, a] : List Nat).Nodup ∧ ∀ x ∈ ([q_16, q_12, q_9, x_6, x_5, x_4, x_3, q_1, a] : List Nat), h_18 x ≠ none := ⟨ndh_17.1, fun x hx => by rw [eh_18]; exact f_up_some (ndh_17.2 x hx)⟩
  refine v_callIn F (pc := 38) (As := []) (rest := [.ref q_16, .ref a]) ci_X4_22 ct_Jx4a65c_init_da8c8 rfl (k_Jx4a65c_init_da8c8 l g fh_17_q_16) dX4_init_38 rfl rfl (Nat.le_of_ble_eq_true rfl) (Nat.le_of_ble_eq_true rfl) (Nat.le_of_ble_eq_true rfl) (Nat.le_of_ble_eq_true rfl) (Nat.le_of_ble_eq_true rfl) ?_
  rw [← eh_18]
  obtain ⟨h_19, eh_19⟩ : ∃ z_, z_ = f_up h_18 a (.inr (7, [.ref q_1, .ref q_9, .ref q_12, .ref q_16, .null, .null, .int (iI (0))])) := ⟨_, rfl⟩
  have fh_19_q_1 : h_19 q_1 = some (.inr (6, [.ref x_3, .ref x_4, .ref x_5, .ref x_6])) := by rw [eh_19]; exact (f_up_n (Ne.symm ne_a_q_1)).trans fh_18_q_1
  have fh_19_x_3 : h_19 x_3 = some (.inr (2, [.int (iI (0)), .ref g.2.2, .int (iI (0))])) := by rw [eh_19]; exact (f_up_n (Ne.symm ne_a_x_3)).trans fh_18_x_3
  have fh_19_x_4 : h_19 x_4 = some (iar (g.2.1 0) 4 (cFil (fun _ => 0) 4 10000)) := by rw [eh_19]; exact (f_up_n (Ne.symm ne_a_x_4)).trans fh_18_x_4
  have fh_19_x_5 : h_19 x_5 = some (iar (g.2.1 0) 4 (cFil (fun _ => 0) 4 10000)) := by rw [eh_19]; exact (f_up_n (Ne.symm ne_a_x_5)).trans fh_18_x_5
  have fh_19_x_6 : h_19 x_6 = some (iar (g.2.1 0) 2 (cFil (fun _ => 0) 2 20000)) := by rw [eh_19]; exact (f_up_n (Ne.symm ne_a_x_6)).trans fh_18_x_6
  have fh_19_q_9 : h_19 q_9 = some (iar (g.2.1 1) 2 (fun _ => 0)) := by rw [eh_19]; exact (f_up_n (Ne.symm ne_a_q_9)).trans fh_18_q_9
  have fh_19_q_12 : h_19 q_12 = some (.inr (2, [.int (iI (0)), .ref g.2.2, .int (iI (0))])) := by rw [eh_19]; exact (f_up_n (Ne.symm ne_a_q_12)).trans fh_18_q_12
  have fh_19_q_16 : h_19 q_16 = some (.inr (2, [.int (iI (0)), .ref g.2.2, .int (iI (0))])) := by rw [eh_19]; exact (f_up_n (Ne.symm ne_a_q_16)).trans fh_18_q_16
  have fh_19_a : h_19 a = some (.inr (7, [.ref q_1, .ref q_9, .ref q_12, .ref q_16, .null, .null, .int (iI (0))])) := by rw [eh_19]; exact f_up_s _ _ _
  have frh_19 : ∀ z x, z ≠ a → h z = some x → h_19 z = some x := fun z x hz hx => by rw [eh_19, f_up_n hz]; exact frh_18 z x hz hx
  have ndh_19 : ([q_16, q_12, q_9, x_6, x_5, x_4, x_3, q_1, a] : List Nat).Nodup ∧ ∀ x ∈ ([q_16, q_12, q_9, x_6, x_5, x_4, x_3, q_1, a] : List Nat), h_19 x ≠ none := ⟨ndh_18.1, fun x hx => by rw [eh_19]; exact f_up_some (ndh_18.2 x hx)⟩
  refine v_putF F (pc := 41) fp_X4_27_7 dX4_init_41 fh_18_a hinit rfl rfl (Nat.le_of_ble_eq_true rfl) (h' := h_19) eh_19.symm ?_
  refine v_aload_n F (pc := 44) dX4_init_44 rfl ?_
  refine v_new F (pc := 45) fn_X4_30 dX4_init_45 (Nat.le_of_ble_eq_true rfl) (Nat.le_of_ble_eq_true rfl) (fun q_20 nq_20 => ?_)
  have ne_a_q_20 : a ≠ q_20 := fun z_ => by have h_ := fh_19_a; rw [z_, nq_20] at h_; cases h_
  have ne_q_1_q_20 : q_1 ≠ q_20 := fun z_ => by have h_ := fh_19_q_1; rw [z_, nq_20] at h_; cases h_
  have ne_x_3_q_20 : x_3 ≠ q_20 := fun z_ => by have h_ := fh_19_x_3; rw [z_, nq_20] at h_; cases h_
  have ne_x_4_q_20 : x_4 ≠ q_20 := fun z_ => by have h_ := fh_19_x_4; rw [z_, nq_20] at h_; cases h_
  have ne_x_5_q_20 : x_5 ≠ q_20 := fun z_ => by have h_ := fh_19_x_5; rw [z_, nq_20] at h_; cases h_
  have ne_x_6_q_20 : x_6 ≠ q_20 := fun z_ => by have h_ := fh_19_x_6; rw [z_, nq_20] at h_; cases h_
  have ne_q_9_q_20 : q_9 ≠ q_20 := fun z_ => by have h_ := fh_19_q_9; rw [z_, nq_20] at h_; cases h_
  have ne_q_12_q_20 : q_12 ≠ q_20 := fun z_ => by have h_ := fh_19_q_12; rw [z_, nq_20] at h_; cases h_
  have ne_q_16_q_20 : q_16 ≠ q_20 := fun z_ => by have h_ := fh_19_q_16; rw [z_, nq_20] at h_; cases h_
  obtain ⟨h_21, eh_21⟩ : ∃ z_, z_ = f_up h_19 q_20 (.inr (3, [.null, .null, .null, .null, .null])) := ⟨_, rfl⟩
  rw [← eh_21]
  have fh_21_a : h_21 a = some (.inr (7, [.ref q_1, .ref q_9, .ref q_12, .ref q_16, .null, .null, .int (iI (0))])) := by rw [eh_21]; exact (f_up_n ne_a_q_20).trans fh_19_a
  have fh_21_q_1 : h_21 q_1 = some (.inr (6, [.ref x_3, .ref x_4, .ref x_5, .ref x_6])) := by rw [eh_21]; exact (f_up_n ne_q_1_q_20).trans fh_19_q_1
  have fh_21_x_3 : h_21 x_3 = some (.inr (2, [.int (iI (0)), .ref g.2.2, .int (iI (0))])) := by rw [eh_21]; exact (f_up_n ne_x_3_q_20).trans fh_19_x_3
  have fh_21_x_4 : h_21 x_4 = some (iar (g.2.1 0) 4 (cFil (fun _ => 0) 4 10000)) := by rw [eh_21]; exact (f_up_n ne_x_4_q_20).trans fh_19_x_4
  have fh_21_x_5 : h_21 x_5 = some (iar (g.2.1 0) 4 (cFil (fun _ => 0) 4 10000)) := by rw [eh_21]; exact (f_up_n ne_x_5_q_20).trans fh_19_x_5
  have fh_21_x_6 : h_21 x_6 = some (iar (g.2.1 0) 2 (cFil (fun _ => 0) 2 20000)) := by rw [eh_21]; exact (f_up_n ne_x_6_q_20).trans fh_19_x_6
  have fh_21_q_9 : h_21 q_9 = some (iar (g.2.1 1) 2 (fun _ => 0)) := by rw [eh_21]; exact (f_up_n ne_q_9_q_20).trans fh_19_q_9
  have fh_21_q_12 : h_21 q_12 = some (.inr (2, [.int (iI (0)), .ref g.2.2, .int (iI (0))])) := by rw [eh_21]; exact (f_up_n ne_q_12_q_20).trans fh_19_q_12
  have fh_21_q_16 : h_21 q_16 = some (.inr (2, [.int (iI (0)), .ref g.2.2, .int (iI (0))])) := by rw [eh_21]; exact (f_up_n ne_q_16_q_20).trans fh_19_q_16
  have fh_21_q_20 : h_21 q_20 = some (.inr (3, [.null, .null, .null, .null, .null])) := by rw [eh_21]; exact f_up_s _ _ _
  have frh_21 : ∀ z x, z ≠ a → h z = some x → h_21 z = some x := fun z x hz hx => by rw [eh_21, f_up_n (fun y => by have h_ := frh_19 z x hz hx; rw [y, nq_20] at h_; cases h_)]; exact frh_19 z x hz hx
  have nb_q_20 : h q_20 = none := nb_of frh_19 (Ne.symm ne_a_q_20) nq_20
  have ndh_21 := al_cons (h' := h_21) ndh_19.1 ndh_19.2 nq_20 (by rw [fh_21_q_20]; exact fun z => by cases z) (fun x _ hx => by rw [eh_21]; exact f_up_some hx)
  refine v_dup F (pc := 48) dX4_init_48 rfl ?_
  refine v_aload_n F (pc := 49) dX4_init_49 rfl ?_
  refine v_getf F (pc := 50) fd_X4_12_7 (v := .ref q_1) dX4_init_50 fh_21_a rfl ?_
  refine v_callI F (pc := 53) (As := [.ref q_1]) (rest := [.ref q_20, .ref a]) ci_X4_32 ct_X0_init rfl (k_X0_init l g fh_21_q_20) dX4_init_53 rfl rfl (Nat.le_of_ble_eq_true rfl) (Nat.le_of_ble_eq_true rfl) (Nat.le_of_ble_eq_true rfl) (Nat.le_of_ble_eq_true rfl) (Nat.le_of_ble_eq_true rfl) (fun v_ h_ hp_ => ?_)
  obtain ⟨rfl, x_22, x_23, x_24, x_25, x_26, x_27, ndxhs_28, nx_22, nx_23, nx_24, nx_25, nx_26, nx_27, fhs_28_q_20, fhs_28_x_22, fhs_28_x_23, fhs_28_x_24, fhs_28_x_25, fhs_28_x_26, fhs_28_x_27, frhs_28x⟩ := hp_
  have fhs_28_a : h_ a = some (.inr (7, [.ref q_1, .ref q_9, .ref q_12, .ref q_16, .null, .null, .int (iI (0))])) := frhs_28x _ _ ne_a_q_20 fh_21_a
  have fhs_28_q_1 : h_ q_1 = some (.inr (6, [.ref x_3, .ref x_4, .ref x_5, .ref x_6])) := frhs_28x _ _ ne_q_1_q_20 fh_21_q_1
  have fhs_28_x_3 : h_ x_3 = some (.inr (2, [.int (iI (0)), .ref g.2.2, .int (iI (0))])) := frhs_28x _ _ ne_x_3_q_20 fh_21_x_3
  have fhs_28_x_4 : h_ x_4 = some (iar (g.2.1 0) 4 (cFil (fun _ => 0) 4 10000)) := frhs_28x _ _ ne_x_4_q_20 fh_21_x_4
  have fhs_28_x_5 : h_ x_5 = some (iar (g.2.1 0) 4 (cFil (fun _ => 0) 4 10000)) := frhs_28x _ _ ne_x_5_q_20 fh_21_x_5
  have fhs_28_x_6 : h_ x_6 = some (iar (g.2.1 0) 2 (cFil (fun _ => 0) 2 20000)) := frhs_28x _ _ ne_x_6_q_20 fh_21_x_6
  have fhs_28_q_9 : h_ q_9 = some (iar (g.2.1 1) 2 (fun _ => 0)) := frhs_28x _ _ ne_q_9_q_20 fh_21_q_9
  have fhs_28_q_12 : h_ q_12 = some (.inr (2, [.int (iI (0)), .ref g.2.2, .int (iI (0))])) := frhs_28x _ _ ne_q_12_q_20 fh_21_q_12
  have fhs_28_q_16 : h_ q_16 = some (.inr (2, [.int (iI (0)), .ref g.2.2, .int (iI (0))])) := frhs_28x _ _ ne_q_16_q_20 fh_21_q_16
  have ne_a_x_22 : a ≠ x_22 := fun z_ => by have h9_ := fh_21_a; rw [z_, nx_22] at h9_; cases h9_
  have ne_a_x_23 : a ≠ x_23 := fun z_ => by have h9_ := fh_21_a; rw [z_, nx_23] at h9_; cases h9_
  have ne_a_x_24 : a ≠ x_24 := fun z_ => by have h9_ := fh_21_a; rw [z_, nx_24] at h9_; cases h9_
  have ne_a_x_25 : a ≠ x_25 := fun z_ => by have h9_ := fh_21_a; rw [z_, nx_25] at h9_; cases h9_
  have ne_a_x_26 : a ≠ x_26 := fun z_ => by have h9_ := fh_21_a; rw [z_, nx_26] at h9_; cases h9_
  have ne_a_x_27 : a ≠ x_27 := fun z_ => by have h9_ := fh_21_a; rw [z_, nx_27] at h9_; cases h9_
  have ne_q_1_x_22 : q_1 ≠ x_22 := fun z_ => by have h9_ := fh_21_q_1; rw [z_, nx_22] at h9_; cases h9_
  have ne_q_1_x_23 : q_1 ≠ x_23 := fun z_ => by have h9_ := fh_21_q_1; rw [z_, nx_23] at h9_; cases h9_
  have ne_q_1_x_24 : q_1 ≠ x_24 := fun z_ => by have h9_ := fh_21_q_1; rw [z_, nx_24] at h9_; cases h9_
  have ne_q_1_x_25 : q_1 ≠ x_25 := fun z_ => by have h9_ := fh_21_q_1; rw [z_, nx_25] at h9_; cases h9_
  have ne_q_1_x_26 : q_1 ≠ x_26 := fun z_ => by have h9_ := fh_21_q_1; rw [z_, nx_26] at h9_; cases h9_
  have ne_q_1_x_27 : q_1 ≠ x_27 := fun z_ => by have h9_ := fh_21_q_1; rw [z_, nx_27] at h9_; cases h9_
  have ne_x_3_x_22 : x_3 ≠ x_22 := fun z_ => by have h9_ := fh_21_x_3; rw [z_, nx_22] at h9_; cases h9_
  have ne_x_3_x_23 : x_3 ≠ x_23 := fun z_ => by have h9_ := fh_21_x_3; rw [z_, nx_23] at h9_; cases h9_
  have ne_x_3_x_24 : x_3 ≠ x_24 := fun z_ => by have h9_ := fh_21_x_3; rw [z_, nx_24] at h9_; cases h9_
  have ne_x_3_x_25 : x_3 ≠ x_25 := fun z_ => by have h9_ := fh_21_x_3; rw [z_, nx_25] at h9_; cases h9_
  have ne_x_3_x_26 : x_3 ≠ x_26 := fun z_ => by have h9_ := fh_21_x_3; rw [z_, nx_26] at h9_; cases h9_
  have ne_x_3_x_27 : x_3 ≠ x_27 := fun z_ => by have h9_ := fh_21_x_3; rw [z_, nx_27] at h9_; cases h9_
  have ne_x_4_x_22 : x_4 ≠ x_22 := fun z_ => by have h9_ := fh_21_x_4; rw [z_, nx_22] at h9_; cases h9_
  have ne_x_4_x_23 : x_4 ≠ x_23 := fun z_ => by have h9_ := fh_21_x_4; rw [z_, nx_23] at h9_; cases h9_
  have ne_x_4_x_24 : x_4 ≠ x_24 := fun z_ => by have h9_ := fh_21_x_4; rw [z_, nx_24] at h9_; cases h9_
  have ne_x_4_x_25 : x_4 ≠ x_25 := fun z_ => by have h9_ := fh_21_x_4; rw [z_, nx_25] at h9_; cases h9_
  have ne_x_4_x_26 : x_4 ≠ x_26 := fun z_ => by have h9_ := fh_21_x_4; rw [z_, nx_26] at h9_; cases h9_
  have ne_x_4_x_27 : x_4 ≠ x_27 := fun z_ => by have h9_ := fh_21_x_4; rw [z_, nx_27] at h9_; cases h9_
  have ne_x_5_x_22 : x_5 ≠ x_22 := fun z_ => by have h9_ := fh_21_x_5; rw [z_, nx_22] at h9_; cases h9_
  have ne_x_5_x_23 : x_5 ≠ x_23 := fun z_ => by have h9_ := fh_21_x_5; rw [z_, nx_23] at h9_; cases h9_
  have ne_x_5_x_24 : x_5 ≠ x_24 := fun z_ => by have h9_ := fh_21_x_5; rw [z_, nx_24] at h9_; cases h9_
  have ne_x_5_x_25 : x_5 ≠ x_25 := fun z_ => by have h9_ := fh_21_x_5; rw [z_, nx_25] at h9_; cases h9_
  have ne_x_5_x_26 : x_5 ≠ x_26 := fun z_ => by have h9_ := fh_21_x_5; rw [z_, nx_26] at h9_; cases h9_
  have ne_x_5_x_27 : x_5 ≠ x_27 := fun z_ => by have h9_ := fh_21_x_5; rw [z_, nx_27] at h9_; cases h9_
  have ne_x_6_x_22 : x_6 ≠ x_22 := fun z_ => by have h9_ := fh_21_x_6; rw [z_, nx_22] at h9_; cases h9_
  have ne_x_6_x_23 : x_6 ≠ x_23 := fun z_ => by have h9_ := fh_21_x_6; rw [z_, nx_23] at h9_; cases h9_
  have ne_x_6_x_24 : x_6 ≠ x_24 := fun z_ => by have h9_ := fh_21_x_6; rw [z_, nx_24] at h9_; cases h9_
  have ne_x_6_x_25 : x_6 ≠ x_25 := fun z_ => by have h9_ := fh_21_x_6; rw [z_, nx_25] at h9_; cases h9_
  have ne_x_6_x_26 : x_6 ≠ x_26 := fun z_ => by have h9_ := fh_21_x_6; rw [z_, nx_26] at h9_; cases h9_
  have ne_x_6_x_27 : x_6 ≠ x_27 := fun z_ => by have h9_ := fh_21_x_6; rw [z_, nx_27] at h9_; cases h9_
  have ne_q_9_x_22 : q_9 ≠ x_22 := fun z_ => by have h9_ := fh_21_q_9; rw [z_, nx_22] at h9_; cases h9_
  have ne_q_9_x_23 : q_9 ≠ x_23 := fun z_ => by have h9_ := fh_21_q_9; rw [z_, nx_23] at h9_; cases h9_
  have ne_q_9_x_24 : q_9 ≠ x_24 := fun z_ => by have h9_ := fh_21_q_9; rw [z_, nx_24] at h9_; cases h9_
  have ne_q_9_x_25 : q_9 ≠ x_25 := fun z_ => by have h9_ := fh_21_q_9; rw [z_, nx_25] at h9_; cases h9_
  have ne_q_9_x_26 : q_9 ≠ x_26 := fun z_ => by have h9_ := fh_21_q_9; rw [z_, nx_26] at h9_; cases h9_
  have ne_q_9_x_27 : q_9 ≠ x_27 := fun z_ => by have h9_ := fh_21_q_9; rw [z_, nx_27] at h9_; cases h9_
  have ne_q_12_x_22 : q_12 ≠ x_22 := fun z_ => by have h9_ := fh_21_q_12; rw [z_, nx_22] at h9_; cases h9_
  have ne_q_12_x_23 : q_12 ≠ x_23 := fun z_ => by have h9_ := fh_21_q_12; rw [z_, nx_23] at h9_; cases h9_
  have ne_q_12_x_24 : q_12 ≠ x_24 := fun z_ => by have h9_ := fh_21_q_12; rw [z_, nx_24] at h9_; cases h9_
  have ne_q_12_x_25 : q_12 ≠ x_25 := fun z_ => by have h9_ := fh_21_q_12; rw [z_, nx_25] at h9_; cases h9_
  have ne_q_12_x_26 : q_12 ≠ x_26 := fun z_ => by have h9_ := fh_21_q_12; rw [z_, nx_26] at h9_; cases h9_
  have ne_q_12_x_27 : q_12 ≠ x_27 := fun z_ => by have h9_ := fh_21_q_12; rw [z_, nx_27] at h9_; cases h9_
  have ne_q_16_x_22 : q_16 ≠ x_22 := fun z_ => by have h9_ := fh_21_q_16; rw [z_, nx_22] at h9_; cases h9_
  have ne_q_16_x_23 : q_16 ≠ x_23 := fun z_ => by have h9_ := fh_21_q_16; rw [z_, nx_23] at h9_; cases h9_
  have ne_q_16_x_24 : q_16 ≠ x_24 := fun z_ => by have h9_ := fh_21_q_16; rw [z_, nx_24] at h9_; cases h9_
  have ne_q_16_x_25 : q_16 ≠ x_25 := fun z_ => by have h9_ := fh_21_q_16; rw [z_, nx_25] at h9_; cases h9_
  have ne_q_16_x_26 : q_16 ≠ x_26 := fun z_ => by have h9_ := fh_21_q_16; rw [z_, nx_26] at h9_; cases h9_
  have ne_q_16_x_27 : q_16 ≠ x_27 := fun z_ => by have h9_ := fh_21_q_16; rw [z_, nx_27] at h9_; cases h9_
  have ne_q_20_x_22 : q_20 ≠ x_22 := fun z_ => by have h9_ := fh_21_q_20; rw [z_, nx_22] at h9_; cases h9_
  have ne_q_20_x_23 : q_20 ≠ x_23 := fun z_ => by have h9_ := fh_21_q_20; rw [z_, nx_23] at h9_; cases h9_
  have ne_q_20_x_24 : q_20 ≠ x_24 := fun z_ => by have h9_ := fh_21_q_20; rw [z_, nx_24] at h9_; cases h9_
  have ne_q_20_x_25 : q_20 ≠ x_25 := fun z_ => by have h9_ := fh_21_q_20; rw [z_, nx_25] at h9_; cases h9_
  have ne_q_20_x_26 : q_20 ≠ x_26 := fun z_ => by have h9_ := fh_21_q_20; rw [z_, nx_26] at h9_; cases h9_
  have ne_q_20_x_27 : q_20 ≠ x_27 := fun z_ => by have h9_ := fh_21_q_20; rw [z_, nx_27] at h9_; cases h9_
  have frhs_28 : ∀ z x, z ≠ a → h z = some x → h_ z = some x := fun z x hz hx => frhs_28x z x (fun y => by rw [y, nb_q_20] at hx; cases hx) (frh_21 z x hz hx)
  have ndhs_28a : ([x_27, x_26, x_25, x_24, x_23, x_22, q_20, q_16, q_12, q_9, x_6, x_5, x_4, x_3, q_1, a] : List Nat).Nodup := nd_app (new := [x_27, x_26, x_25, x_24, x_23, x_22]) (L := [q_20, q_16, q_12, q_9, x_6, x_5, x_4, x_3, q_1, a]) (q := q_20) ndxhs_28 ndh_21.1 (fun y hy => by simp only [List.mem_cons, List.not_mem_nil, or_false] at hy; rcases hy with rfl | rfl | rfl | rfl | rfl | rfl <;> assumption) ndh_21.2
  have ndhs_28 : ([x_27, x_26, x_25, x_24, x_23, x_22, q_20, q_16, q_12, q_9, x_6, x_5, x_4, x_3, q_1, a] : List Nat).Nodup ∧ ∀ x ∈ ([x_27, x_26, x_25, x_24, x_23, x_22, q_20, q_16, q_12, q_9, x_6, x_5, x_4, x_3, q_1, a] : List Nat), h_ x ≠ none := ⟨ndhs_28a, fun x hx => by
    simp only [List.mem_cons, List.not_mem_nil, or_false] at hx
    rcases hx with rfl | rfl | rfl | rfl | rfl | rfl | rfl | rfl | rfl | rfl | rfl | rfl | rfl | rfl | rfl | rfl
    · rw [fhs_28_x_27]; exact fun z => by cases z
    · rw [fhs_28_x_26]; exact fun z => by cases z
    · rw [fhs_28_x_25]; exact fun z => by cases z
    · rw [fhs_28_x_24]; exact fun z => by cases z
    · rw [fhs_28_x_23]; exact fun z => by cases z
    · rw [fhs_28_x_22]; exact fun z => by cases z
    · rw [fhs_28_q_20]; exact fun z => by cases z
    · rw [fhs_28_q_16]; exact fun z => by cases z
    · rw [fhs_28_q_12]; exact fun z => by cases z
    · rw [fhs_28_q_9]; exact fun z => by cases z
    · rw [fhs_28_x_6]; exact fun z => by cases z
    · rw [fhs_28_x_5]; exact fun z => by cases z
    · rw [fhs_28_x_4]; exact fun z => by cases z
    · rw [fhs_28_x_3]; exact fun z => by cases z
    · rw [fhs_28_q_1]; exact fun z => by cases z
    · rw [fhs_28_a]; exact fun z => by cases z⟩
  obtain ⟨hs_28, ehs_28⟩ : ∃ z_, z_ = h_ := ⟨_, rfl⟩
  rw [← ehs_28]
  rw [← ehs_28] at fhs_28_a fhs_28_q_1 fhs_28_x_3 fhs_28_x_4 fhs_28_x_5 fhs_28_x_6 fhs_28_q_9 fhs_28_q_12 fhs_28_q_16 fhs_28_q_20 fhs_28_x_22 fhs_28_x_23 fhs_28_x_24 fhs_28_x_25 fhs_28_x_26 fhs_28_x_27 frhs_28 ndhs_28
  clear frhs_28x
  obtain ⟨h_29, eh_29⟩ : ∃ z_, z_ = f_up hs_28 a (.inr (7, [.ref q_1, .ref q_9, .ref q_12, .ref q_16, .ref q_20, .null, .int (iI (0))])) := ⟨_, rfl⟩
  have fh_29_q_1 : h_29 q_1 = some (.inr (6, [.ref x_3, .ref x_4, .ref x_5, .ref x_6])) := by rw [eh_29]; exact (f_up_n (Ne.symm ne_a_q_1)).trans fhs_28_q_1
  have fh_29_x_3 : h_29 x_3 = some (.inr (2, [.int (iI (0)), .ref g.2.2, .int (iI (0))])) := by rw [eh_29]; exact (f_up_n (Ne.symm ne_a_x_3)).trans fhs_28_x_3
  have fh_29_x_4 : h_29 x_4 = some (iar (g.2.1 0) 4 (cFil (fun _ => 0) 4 10000)) := by rw [eh_29]; exact (f_up_n (Ne.symm ne_a_x_4)).trans fhs_28_x_4
  have fh_29_x_5 : h_29 x_5 = some (iar (g.2.1 0) 4 (cFil (fun _ => 0) 4 10000)) := by rw [eh_29]; exact (f_up_n (Ne.symm ne_a_x_5)).trans fhs_28_x_5
  have fh_29_x_6 : h_29 x_6 = some (iar (g.2.1 0) 2 (cFil (fun _ => 0) 2 20000)) := by rw [eh_29]; exact (f_up_n (Ne.symm ne_a_x_6)).trans fhs_28_x_6
  have fh_29_q_9 : h_29 q_9 = some (iar (g.2.1 1) 2 (fun _ => 0)) := by rw [eh_29]; exact (f_up_n (Ne.symm ne_a_q_9)).trans fhs_28_q_9
  have fh_29_q_12 : h_29 q_12 = some (.inr (2, [.int (iI (0)), .ref g.2.2, .int (iI (0))])) := by rw [eh_29]; exact (f_up_n (Ne.symm ne_a_q_12)).trans fhs_28_q_12
  have fh_29_q_16 : h_29 q_16 = some (.inr (2, [.int (iI (0)), .ref g.2.2, .int (iI (0))])) := by rw [eh_29]; exact (f_up_n (Ne.symm ne_a_q_16)).trans fhs_28_q_16
  have fh_29_q_20 : h_29 q_20 = some (.inr (3, [.ref q_1, .ref x_22, .ref x_23, .ref x_24, .ref x_25])) := by rw [eh_29]; exact (f_up_n (Ne.symm ne_a_q_20)).trans fhs_28_q_20
  have fh_29_x_22 : h_29 x_22 = some (iar (g.2.1 0) 160 (cFil (fun _ => 0) 160 (-1))) := by rw [eh_29]; exact (f_up_n (Ne.symm ne_a_x_22)).trans fhs_28_x_22
  have fh_29_x_23 : h_29 x_23 = some (iar (g.2.1 0) 8 (fun _ => 0)) := by rw [eh_29]; exact (f_up_n (Ne.symm ne_a_x_23)).trans fhs_28_x_23
  have fh_29_x_24 : h_29 x_24 = some (iar (g.2.1 0) 8 (fun _ => 0)) := by rw [eh_29]; exact (f_up_n (Ne.symm ne_a_x_24)).trans fhs_28_x_24
  have fh_29_x_25 : h_29 x_25 = some (qar (g.2.1 3) 2 (fun z => if z ≤ 0 then some x_26 else some x_27)) := by rw [eh_29]; exact (f_up_n (Ne.symm ne_a_x_25)).trans fhs_28_x_25
  have fh_29_x_26 : h_29 x_26 = some (iar (g.2.1 0) 8 (fun _ => 0)) := by rw [eh_29]; exact (f_up_n (Ne.symm ne_a_x_26)).trans fhs_28_x_26
  have fh_29_x_27 : h_29 x_27 = some (iar (g.2.1 0) 8 (fun _ => 0)) := by rw [eh_29]; exact (f_up_n (Ne.symm ne_a_x_27)).trans fhs_28_x_27
  have fh_29_a : h_29 a = some (.inr (7, [.ref q_1, .ref q_9, .ref q_12, .ref q_16, .ref q_20, .null, .int (iI (0))])) := by rw [eh_29]; exact f_up_s _ _ _
  have frh_29 : ∀ z x, z ≠ a → h z = some x → h_29 z = some x := fun z x hz hx => by rw [eh_29, f_up_n hz]; exact frhs_28 z x hz hx
  have ndh_29 : ([x_27, x_26, x_25, x_24, x_23, x_22, q_20, q_16, q_12, q_9, x_6, x_5, x_4, x_3, q_1, a] : List Nat).Nodup ∧ ∀ x ∈ ([x_27, x_26, x_25, x_24, x_23, x_22, q_20, q_16, q_12, q_9, x_6, x_5, x_4, x_3, q_1, a] : List Nat), h_29 x ≠ none := ⟨ndhs_28.1, fun x hx => by rw [eh_29]; exact f_up_some (ndhs_28.2 x hx)⟩
  refine v_putf F (pc := 56) fp_X4_35_7 dX4_init_56 fhs_28_a rfl rfl (Nat.le_of_ble_eq_true rfl) (h' := h_29) eh_29.symm ?_
  refine v_aload_n F (pc := 59) dX4_init_59 rfl ?_
  refine v_new F (pc := 60) fn_X4_30 dX4_init_60 (Nat.le_of_ble_eq_true rfl) (Nat.le_of_ble_eq_true rfl) (fun q_30 nq_30 => ?_)
  have ne_a_q_30 : a ≠ q_30 := fun z_ => by have h_ := fh_29_a; rw [z_, nq_30] at h_; cases h_
  have ne_q_1_q_30 : q_1 ≠ q_30 := fun z_ => by have h_ := fh_29_q_1; rw [z_, nq_30] at h_; cases h_
  have ne_x_3_q_30 : x_3 ≠ q_30 := fun z_ => by have h_ := fh_29_x_3; rw [z_, nq_30] at h_; cases h_
  have ne_x_4_q_30 : x_4 ≠ q_30 := fun z_ => by have h_ := fh_29_x_4; rw [z_, nq_30] at h_; cases h_
  have ne_x_5_q_30 : x_5 ≠ q_30 := fun z_ => by have h_ := fh_29_x_5; rw [z_, nq_30] at h_; cases h_
  have ne_x_6_q_30 : x_6 ≠ q_30 := fun z_ => by have h_ := fh_29_x_6; rw [z_, nq_30] at h_; cases h_
  have ne_q_9_q_30 : q_9 ≠ q_30 := fun z_ => by have h_ := fh_29_q_9; rw [z_, nq_30] at h_; cases h_
  have ne_q_12_q_30 : q_12 ≠ q_30 := fun z_ => by have h_ := fh_29_q_12; rw [z_, nq_30] at h_; cases h_
  have ne_q_16_q_30 : q_16 ≠ q_30 := fun z_ => by have h_ := fh_29_q_16; rw [z_, nq_30] at h_; cases h_
  have ne_q_20_q_30 : q_20 ≠ q_30 := fun z_ => by have h_ := fh_29_q_20; rw [z_, nq_30] at h_; cases h_
  have ne_x_22_q_30 : x_22 ≠ q_30 := fun z_ => by have h_ := fh_29_x_22; rw [z_, nq_30] at h_; cases h_
  have ne_x_23_q_30 : x_23 ≠ q_30 := fun z_ => by have h_ := fh_29_x_23; rw [z_, nq_30] at h_; cases h_
  have ne_x_24_q_30 : x_24 ≠ q_30 := fun z_ => by have h_ := fh_29_x_24; rw [z_, nq_30] at h_; cases h_
  have ne_x_25_q_30 : x_25 ≠ q_30 := fun z_ => by have h_ := fh_29_x_25; rw [z_, nq_30] at h_; cases h_
  have ne_x_26_q_30 : x_26 ≠ q_30 := fun z_ => by have h_ := fh_29_x_26; rw [z_, nq_30] at h_; cases h_
  have ne_x_27_q_30 : x_27 ≠ q_30 := fun z_ => by have h_ := fh_29_x_27; rw [z_, nq_30] at h_; cases h_
  obtain ⟨h_31, eh_31⟩ : ∃ z_, z_ = f_up h_29 q_30 (.inr (3, [.null, .null, .null, .null, .null])) := ⟨_, rfl⟩
  rw [← eh_31]
  have fh_31_a : h_31 a = some (.inr (7, [.ref q_1, .ref q_9, .ref q_12, .ref q_16, .ref q_20, .null, .int (iI (0))])) := by rw [eh_31]; exact (f_up_n ne_a_q_30).trans fh_29_a
  have fh_31_q_1 : h_31 q_1 = some (.inr (6, [.ref x_3, .ref x_4, .ref x_5, .ref x_6])) := by rw [eh_31]; exact (f_up_n ne_q_1_q_30).trans fh_29_q_1
  have fh_31_x_3 : h_31 x_3 = some (.inr (2, [.int (iI (0)), .ref g.2.2, .int (iI (0))])) := by rw [eh_31]; exact (f_up_n ne_x_3_q_30).trans fh_29_x_3
  have fh_31_x_4 : h_31 x_4 = some (iar (g.2.1 0) 4 (cFil (fun _ => 0) 4 10000)) := by rw [eh_31]; exact (f_up_n ne_x_4_q_30).trans fh_29_x_4
  have fh_31_x_5 : h_31 x_5 = some (iar (g.2.1 0) 4 (cFil (fun _ => 0) 4 10000)) := by rw [eh_31]; exact (f_up_n ne_x_5_q_30).trans fh_29_x_5
  have fh_31_x_6 : h_31 x_6 = some (iar (g.2.1 0) 2 (cFil (fun _ => 0) 2 20000)) := by rw [eh_31]; exact (f_up_n ne_x_6_q_30).trans fh_29_x_6
  have fh_31_q_9 : h_31 q_9 = some (iar (g.2.1 1) 2 (fun _ => 0)) := by rw [eh_31]; exact (f_up_n ne_q_9_q_30).trans fh_29_q_9
  have fh_31_q_12 : h_31 q_12 = some (.inr (2, [.int (iI (0)), .ref g.2.2, .int (iI (0))])) := by rw [eh_31]; exact (f_up_n ne_q_12_q_30).trans fh_29_q_12
  have fh_31_q_16 : h_31 q_16 = some (.inr (2, [.int (iI (0)), .ref g.2.2, .int (iI (0))])) := by rw [eh_31]; exact (f_up_n ne_q_16_q_30).trans fh_29_q_16
  have fh_31_q_20 : h_31 q_20 = some (.inr (3, [.ref q_1, .ref x_22, .ref x_23, .ref x_24, .ref x_25])) := by rw [eh_31]; exact (f_up_n ne_q_20_q_30).trans fh_29_q_20
  have fh_31_x_22 : h_31 x_22 = some (iar (g.2.1 0) 160 (cFil (fun _ => 0) 160 (-1))) := by rw [eh_31]; exact (f_up_n ne_x_22_q_30).trans fh_29_x_22
  have fh_31_x_23 : h_31 x_23 = some (iar (g.2.1 0) 8 (fun _ => 0)) := by rw [eh_31]; exact (f_up_n ne_x_23_q_30).trans fh_29_x_23
  have fh_31_x_24 : h_31 x_24 = some (iar (g.2.1 0) 8 (fun _ => 0)) := by rw [eh_31]; exact (f_up_n ne_x_24_q_30).trans fh_29_x_24
  have fh_31_x_25 : h_31 x_25 = some (qar (g.2.1 3) 2 (fun z => if z ≤ 0 then some x_26 else some x_27)) := by rw [eh_31]; exact (f_up_n ne_x_25_q_30).trans fh_29_x_25
  have fh_31_x_26 : h_31 x_26 = some (iar (g.2.1 0) 8 (fun _ => 0)) := by rw [eh_31]; exact (f_up_n ne_x_26_q_30).trans fh_29_x_26
  have fh_31_x_27 : h_31 x_27 = some (iar (g.2.1 0) 8 (fun _ => 0)) := by rw [eh_31]; exact (f_up_n ne_x_27_q_30).trans fh_29_x_27
  have fh_31_q_30 : h_31 q_30 = some (.inr (3, [.null, .null, .null, .null, .null])) := by rw [eh_31]; exact f_up_s _ _ _
  have frh_31 : ∀ z x, z ≠ a → h z = some x → h_31 z = some x := fun z x hz hx => by rw [eh_31, f_up_n (fun y => by have h_ := frh_29 z x hz hx; rw [y, nq_30] at h_; cases h_)]; exact frh_29 z x hz hx
  have nb_q_30 : h q_30 = none := nb_of frh_29 (Ne.symm ne_a_q_30) nq_30
  have ndh_31 := al_cons (h' := h_31) ndh_29.1 ndh_29.2 nq_30 (by rw [fh_31_q_30]; exact fun z => by cases z) (fun x _ hx => by rw [eh_31]; exact f_up_some hx)
  refine v_dup F (pc := 63) dX4_init_63 rfl ?_
  refine v_aload_n F (pc := 64) dX4_init_64 rfl ?_
  refine v_getf F (pc := 65) fd_X4_12_7 (v := .ref q_1) dX4_init_65 fh_31_a rfl ?_
  refine v_callI F (pc := 68) (As := [.ref q_1]) (rest := [.ref q_30, .ref a]) ci_X4_32 ct_X0_init rfl (k_X0_init l g fh_31_q_30) dX4_init_68 rfl rfl (Nat.le_of_ble_eq_true rfl) (Nat.le_of_ble_eq_true rfl) (Nat.le_of_ble_eq_true rfl) (Nat.le_of_ble_eq_true rfl) (Nat.le_of_ble_eq_true rfl) (fun v_ h_ hp_ => ?_)
  obtain ⟨rfl, x_32, x_33, x_34, x_35, x_36, x_37, ndxhs_38, nx_32, nx_33, nx_34, nx_35, nx_36, nx_37, fhs_38_q_30, fhs_38_x_32, fhs_38_x_33, fhs_38_x_34, fhs_38_x_35, fhs_38_x_36, fhs_38_x_37, frhs_38x⟩ := hp_
  have fhs_38_a : h_ a = some (.inr (7, [.ref q_1, .ref q_9, .ref q_12, .ref q_16, .ref q_20, .null, .int (iI (0))])) := frhs_38x _ _ ne_a_q_30 fh_31_a
  have fhs_38_q_1 : h_ q_1 = some (.inr (6, [.ref x_3, .ref x_4, .ref x_5, .ref x_6])) := frhs_38x _ _ ne_q_1_q_30 fh_31_q_1
  have fhs_38_x_3 : h_ x_3 = some (.inr (2, [.int (iI (0)), .ref g.2.2, .int (iI (0))])) := frhs_38x _ _ ne_x_3_q_30 fh_31_x_3
  have fhs_38_x_4 : h_ x_4 = some (iar (g.2.1 0) 4 (cFil (fun _ => 0) 4 10000)) := frhs_38x _ _ ne_x_4_q_30 fh_31_x_4
  have fhs_38_x_5 : h_ x_5 = some (iar (g.2.1 0) 4 (cFil (fun _ => 0) 4 10000)) := frhs_38x _ _ ne_x_5_q_30 fh_31_x_5
  have fhs_38_x_6 : h_ x_6 = some (iar (g.2.1 0) 2 (cFil (fun _ => 0) 2 20000)) := frhs_38x _ _ ne_x_6_q_30 fh_31_x_6
  have fhs_38_q_9 : h_ q_9 = some (iar (g.2.1 1) 2 (fun _ => 0)) := frhs_38x _ _ ne_q_9_q_30 fh_31_q_9
  have fhs_38_q_12 : h_ q_12 = some (.inr (2, [.int (iI (0)), .ref g.2.2, .int (iI (0))])) := frhs_38x _ _ ne_q_12_q_30 fh_31_q_12
  have fhs_38_q_16 : h_ q_16 = some (.inr (2, [.int (iI (0)), .ref g.2.2, .int (iI (0))])) := frhs_38x _ _ ne_q_16_q_30 fh_31_q_16
  have fhs_38_q_20 : h_ q_20 = some (.inr (3, [.ref q_1, .ref x_22, .ref x_23, .ref x_24, .ref x_25])) := frhs_38x _ _ ne_q_20_q_30 fh_31_q_20
  have fhs_38_x_22 : h_ x_22 = some (iar (g.2.1 0) 160 (cFil (fun _ => 0) 160 (-1))) := frhs_38x _ _ ne_x_22_q_30 fh_31_x_22
  have fhs_38_x_23 : h_ x_23 = some (iar (g.2.1 0) 8 (fun _ => 0)) := frhs_38x _ _ ne_x_23_q_30 fh_31_x_23
  have fhs_38_x_24 : h_ x_24 = some (iar (g.2.1 0) 8 (fun _ => 0)) := frhs_38x _ _ ne_x_24_q_30 fh_31_x_24
  have fhs_38_x_25 : h_ x_25 = some (qar (g.2.1 3) 2 (fun z => if z ≤ 0 then some x_26 else some x_27)) := frhs_38x _ _ ne_x_25_q_30 fh_31_x_25
  have fhs_38_x_26 : h_ x_26 = some (iar (g.2.1 0) 8 (fun _ => 0)) := frhs_38x _ _ ne_x_26_q_30 fh_31_x_26
  have fhs_38_x_27 : h_ x_27 = some (iar (g.2.1 0) 8 (fun _ => 0)) := frhs_38x _ _ ne_x_27_q_30 fh_31_x_27
  have ne_a_x_32 : a ≠ x_32 := fun z_ => by have h9_ := fh_31_a; rw [z_, nx_32] at h9_; cases h9_
  have ne_a_x_33 : a ≠ x_33 := fun z_ => by have h9_ := fh_31_a; rw [z_, nx_33] at h9_; cases h9_
  have ne_a_x_34 : a ≠ x_34 := fun z_ => by have h9_ := fh_31_a; rw [z_, nx_34] at h9_; cases h9_
  have ne_a_x_35 : a ≠ x_35 := fun z_ => by have h9_ := fh_31_a; rw [z_, nx_35] at h9_; cases h9_
  have ne_a_x_36 : a ≠ x_36 := fun z_ => by have h9_ := fh_31_a; rw [z_, nx_36] at h9_; cases h9_
  have ne_a_x_37 : a ≠ x_37 := fun z_ => by have h9_ := fh_31_a; rw [z_, nx_37] at h9_; cases h9_
  have ne_q_1_x_32 : q_1 ≠ x_32 := fun z_ => by have h9_ := fh_31_q_1; rw [z_, nx_32] at h9_; cases h9_
  have ne_q_1_x_33 : q_1 ≠ x_33 := fun z_ => by have h9_ := fh_31_q_1; rw [z_, nx_33] at h9_; cases h9_
  have ne_q_1_x_34 : q_1 ≠ x_34 := fun z_ => by have h9_ := fh_31_q_1; rw [z_, nx_34] at h9_; cases h9_
  have ne_q_1_x_35 : q_1 ≠ x_35 := fun z_ => by have h9_ := fh_31_q_1; rw [z_, nx_35] at h9_; cases h9_
  have ne_q_1_x_36 : q_1 ≠ x_36 := fun z_ => by have h9_ := fh_31_q_1; rw [z_, nx_36] at h9_; cases h9_
  have ne_q_1_x_37 : q_1 ≠ x_37 := fun z_ => by have h9_ := fh_31_q_1; rw [z_, nx_37] at h9_; cases h9_
  have ne_x_3_x_32 : x_3 ≠ x_32 := fun z_ => by have h9_ := fh_31_x_3; rw [z_, nx_32] at h9_; cases h9_
  have ne_x_3_x_33 : x_3 ≠ x_33 := fun z_ => by have h9_ := fh_31_x_3; rw [z_, nx_33] at h9_; cases h9_
  have ne_x_3_x_34 : x_3 ≠ x_34 := fun z_ => by have h9_ := fh_31_x_3; rw [z_, nx_34] at h9_; cases h9_
  have ne_x_3_x_35 : x_3 ≠ x_35 := fun z_ => by have h9_ := fh_31_x_3; rw [z_, nx_35] at h9_; cases h9_
  have ne_x_3_x_36 : x_3 ≠ x_36 := fun z_ => by have h9_ := fh_31_x_3; rw [z_, nx_36] at h9_; cases h9_
  have ne_x_3_x_37 : x_3 ≠ x_37 := fun z_ => by have h9_ := fh_31_x_3; rw [z_, nx_37] at h9_; cases h9_
  have ne_x_4_x_32 : x_4 ≠ x_32 := fun z_ => by have h9_ := fh_31_x_4; rw [z_, nx_32] at h9_; cases h9_
  have ne_x_4_x_33 : x_4 ≠ x_33 := fun z_ => by have h9_ := fh_31_x_4; rw [z_, nx_33] at h9_; cases h9_
  have ne_x_4_x_34 : x_4 ≠ x_34 := fun z_ => by have h9_ := fh_31_x_4; rw [z_, nx_34] at h9_; cases h9_
  have ne_x_4_x_35 : x_4 ≠ x_35 := fun z_ => by have h9_ := fh_31_x_4; rw [z_, nx_35] at h9_; cases h9_
  have ne_x_4_x_36 : x_4 ≠ x_36 := fun z_ => by have h9_ := fh_31_x_4; rw [z_, nx_36] at h9_; cases h9_
  have ne_x_4_x_37 : x_4 ≠ x_37 := fun z_ => by have h9_ := fh_31_x_4; rw [z_, nx_37] at h9_; cases h9_
  have ne_x_5_x_32 : x_5 ≠ x_32 := fun z_ => by have h9_ := fh_31_x_5; rw [z_, nx_32] at h9_; cases h9_
  have ne_x_5_x_33 : x_5 ≠ x_33 := fun z_ => by have h9_ := fh_31_x_5; rw [z_, nx_33] at h9_; cases h9_
  have ne_x_5_x_34 : x_5 ≠ x_34 := fun z_ => by have h9_ := fh_31_x_5; rw [z_, nx_34] at h9_; cases h9_
  have ne_x_5_x_35 : x_5 ≠ x_35 := fun z_ => by have h9_ := fh_31_x_5; rw [z_, nx_35] at h9_; cases h9_
  have ne_x_5_x_36 : x_5 ≠ x_36 := fun z_ => by have h9_ := fh_31_x_5; rw [z_, nx_36] at h9_; cases h9_
  have ne_x_5_x_37 : x_5 ≠ x_37 := fun z_ => by have h9_ := fh_31_x_5; rw [z_, nx_37] at h9_; cases h9_
  have ne_x_6_x_32 : x_6 ≠ x_32 := fun z_ => by have h9_ := fh_31_x_6; rw [z_, nx_32] at h9_; cases h9_
  have ne_x_6_x_33 : x_6 ≠ x_33 := fun z_ => by have h9_ := fh_31_x_6; rw [z_, nx_33] at h9_; cases h9_
  have ne_x_6_x_34 : x_6 ≠ x_34 := fun z_ => by have h9_ := fh_31_x_6; rw [z_, nx_34] at h9_; cases h9_
  have ne_x_6_x_35 : x_6 ≠ x_35 := fun z_ => by have h9_ := fh_31_x_6; rw [z_, nx_35] at h9_; cases h9_
  have ne_x_6_x_36 : x_6 ≠ x_36 := fun z_ => by have h9_ := fh_31_x_6; rw [z_, nx_36] at h9_; cases h9_
  have ne_x_6_x_37 : x_6 ≠ x_37 := fun z_ => by have h9_ := fh_31_x_6; rw [z_, nx_37] at h9_; cases h9_
  have ne_q_9_x_32 : q_9 ≠ x_32 := fun z_ => by have h9_ := fh_31_q_9; rw [z_, nx_32] at h9_; cases h9_
  have ne_q_9_x_33 : q_9 ≠ x_33 := fun z_ => by have h9_ := fh_31_q_9; rw [z_, nx_33] at h9_; cases h9_
  have ne_q_9_x_34 : q_9 ≠ x_34 := fun z_ => by have h9_ := fh_31_q_9; rw [z_, nx_34] at h9_; cases h9_
  have ne_q_9_x_35 : q_9 ≠ x_35 := fun z_ => by have h9_ := fh_31_q_9; rw [z_, nx_35] at h9_; cases h9_
  have ne_q_9_x_36 : q_9 ≠ x_36 := fun z_ => by have h9_ := fh_31_q_9; rw [z_, nx_36] at h9_; cases h9_
  have ne_q_9_x_37 : q_9 ≠ x_37 := fun z_ => by have h9_ := fh_31_q_9; rw [z_, nx_37] at h9_; cases h9_
  have ne_q_12_x_32 : q_12 ≠ x_32 := fun z_ => by have h9_ := fh_31_q_12; rw [z_, nx_32] at h9_; cases h9_
  have ne_q_12_x_33 : q_12 ≠ x_33 := fun z_ => by have h9_ := fh_31_q_12; rw [z_, nx_33] at h9_; cases h9_
  have ne_q_12_x_34 : q_12 ≠ x_34 := fun z_ => by have h9_ := fh_31_q_12; rw [z_, nx_34] at h9_; cases h9_
  have ne_q_12_x_35 : q_12 ≠ x_35 := fun z_ => by have h9_ := fh_31_q_12; rw [z_, nx_35] at h9_; cases h9_
  have ne_q_12_x_36 : q_12 ≠ x_36 := fun z_ => by have h9_ := fh_31_q_12; rw [z_, nx_36] at h9_; cases h9_
  have ne_q_12_x_37 : q_12 ≠ x_37 := fun z_ => by have h9_ := fh_31_q_12; rw [z_, nx_37] at h9_; cases h9_
  have ne_q_16_x_32 : q_16 ≠ x_32 := fun z_ => by have h9_ := fh_31_q_16; rw [z_, nx_32] at h9_; cases h9_
  have ne_q_16_x_33 : q_16 ≠ x_33 := fun z_ => by have h9_ := fh_31_q_16; rw [z_, nx_33] at h9_; cases h9_
  have ne_q_16_x_34 : q_16 ≠ x_34 := fun z_ => by have h9_ := fh_31_q_16; rw [z_, nx_34] at h9_; cases h9_
  have ne_q_16_x_35 : q_16 ≠ x_35 := fun z_ => by have h9_ := fh_31_q_16; rw [z_, nx_35] at h9_; cases h9_
  have ne_q_16_x_36 : q_16 ≠ x_36 := fun z_ => by have h9_ := fh_31_q_16; rw [z_, nx_36] at h9_; cases h9_
  have ne_q_16_x_37 : q_16 ≠ x_37 := fun z_ => by have h9_ := fh_31_q_16; rw [z_, nx_37] at h9_; cases h9_
  have ne_q_20_x_32 : q_20 ≠ x_32 := fun z_ => by have h9_ := fh_31_q_20; rw [z_, nx_32] at h9_; cases h9_
  have ne_q_20_x_33 : q_20 ≠ x_33 := fun z_ => by have h9_ := fh_31_q_20; rw [z_, nx_33] at h9_; cases h9_
  have ne_q_20_x_34 : q_20 ≠ x_34 := fun z_ => by have h9_ := fh_31_q_20; rw [z_, nx_34] at h9_; cases h9_
  have ne_q_20_x_35 : q_20 ≠ x_35 := fun z_ => by have h9_ := fh_31_q_20; rw [z_, nx_35] at h9_; cases h9_
  have ne_q_20_x_36 : q_20 ≠ x_36 := fun z_ => by have h9_ := fh_31_q_20; rw [z_, nx_36] at h9_; cases h9_
  have ne_q_20_x_37 : q_20 ≠ x_37 := fun z_ => by have h9_ := fh_31_q_20; rw [z_, nx_37] at h9_; cases h9_
  have ne_x_22_x_32 : x_22 ≠ x_32 := fun z_ => by have h9_ := fh_31_x_22; rw [z_, nx_32] at h9_; cases h9_
  have ne_x_22_x_33 : x_22 ≠ x_33 := fun z_ => by have h9_ := fh_31_x_22; rw [z_, nx_33] at h9_; cases h9_
  have ne_x_22_x_34 : x_22 ≠ x_34 := fun z_ => by have h9_ := fh_31_x_22; rw [z_, nx_34] at h9_; cases h9_
  have ne_x_22_x_35 : x_22 ≠ x_35 := fun z_ => by have h9_ := fh_31_x_22; rw [z_, nx_35] at h9_; cases h9_
  have ne_x_22_x_36 : x_22 ≠ x_36 := fun z_ => by have h9_ := fh_31_x_22; rw [z_, nx_36] at h9_; cases h9_
  have ne_x_22_x_37 : x_22 ≠ x_37 := fun z_ => by have h9_ := fh_31_x_22; rw [z_, nx_37] at h9_; cases h9_
  have ne_x_23_x_32 : x_23 ≠ x_32 := fun z_ => by have h9_ := fh_31_x_23; rw [z_, nx_32] at h9_; cases h9_
  have ne_x_23_x_33 : x_23 ≠ x_33 := fun z_ => by have h9_ := fh_31_x_23; rw [z_, nx_33] at h9_; cases h9_
  have ne_x_23_x_34 : x_23 ≠ x_34 := fun z_ => by have h9_ := fh_31_x_23; rw [z_, nx_34] at h9_; cases h9_
  have ne_x_23_x_35 : x_23 ≠ x_35 := fun z_ => by have h9_ := fh_31_x_23; rw [z_, nx_35] at h9_; cases h9_
  have ne_x_23_x_36 : x_23 ≠ x_36 := fun z_ => by have h9_ := fh_31_x_23; rw [z_, nx_36] at h9_; cases h9_
  have ne_x_23_x_37 : x_23 ≠ x_37 := fun z_ => by have h9_ := fh_31_x_23; rw [z_, nx_37] at h9_; cases h9_
  have ne_x_24_x_32 : x_24 ≠ x_32 := fun z_ => by have h9_ := fh_31_x_24; rw [z_, nx_32] at h9_; cases h9_
  have ne_x_24_x_33 : x_24 ≠ x_33 := fun z_ => by have h9_ := fh_31_x_24; rw [z_, nx_33] at h9_; cases h9_
  have ne_x_24_x_34 : x_24 ≠ x_34 := fun z_ => by have h9_ := fh_31_x_24; rw [z_, nx_34] at h9_; cases h9_
  have ne_x_24_x_35 : x_24 ≠ x_35 := fun z_ => by have h9_ := fh_31_x_24; rw [z_, nx_35] at h9_; cases h9_
  have ne_x_24_x_36 : x_24 ≠ x_36 := fun z_ => by have h9_ := fh_31_x_24; rw [z_, nx_36] at h9_; cases h9_
  have ne_x_24_x_37 : x_24 ≠ x_37 := fun z_ => by have h9_ := fh_31_x_24; rw [z_, nx_37] at h9_; cases h9_
  have ne_x_25_x_32 : x_25 ≠ x_32 := fun z_ => by have h9_ := fh_31_x_25; rw [z_, nx_32] at h9_; cases h9_
  have ne_x_25_x_33 : x_25 ≠ x_33 := fun z_ => by have h9_ := fh_31_x_25; rw [z_, nx_33] at h9_; cases h9_
  have ne_x_25_x_34 : x_25 ≠ x_34 := fun z_ => by have h9_ := fh_31_x_25; rw [z_, nx_34] at h9_; cases h9_
  have ne_x_25_x_35 : x_25 ≠ x_35 := fun z_ => by have h9_ := fh_31_x_25; rw [z_, nx_35] at h9_; cases h9_
  have ne_x_25_x_36 : x_25 ≠ x_36 := fun z_ => by have h9_ := fh_31_x_25; rw [z_, nx_36] at h9_; cases h9_
  have ne_x_25_x_37 : x_25 ≠ x_37 := fun z_ => by have h9_ := fh_31_x_25; rw [z_, nx_37] at h9_; cases h9_
  have ne_x_26_x_32 : x_26 ≠ x_32 := fun z_ => by have h9_ := fh_31_x_26; rw [z_, nx_32] at h9_; cases h9_
  have ne_x_26_x_33 : x_26 ≠ x_33 := fun z_ => by have h9_ := fh_31_x_26; rw [z_, nx_33] at h9_; cases h9_
  have ne_x_26_x_34 : x_26 ≠ x_34 := fun z_ => by have h9_ := fh_31_x_26; rw [z_, nx_34] at h9_; cases h9_
  have ne_x_26_x_35 : x_26 ≠ x_35 := fun z_ => by have h9_ := fh_31_x_26; rw [z_, nx_35] at h9_; cases h9_
  have ne_x_26_x_36 : x_26 ≠ x_36 := fun z_ => by have h9_ := fh_31_x_26; rw [z_, nx_36] at h9_; cases h9_
  have ne_x_26_x_37 : x_26 ≠ x_37 := fun z_ => by have h9_ := fh_31_x_26; rw [z_, nx_37] at h9_; cases h9_
  have ne_x_27_x_32 : x_27 ≠ x_32 := fun z_ => by have h9_ := fh_31_x_27; rw [z_, nx_32] at h9_; cases h9_
  have ne_x_27_x_33 : x_27 ≠ x_33 := fun z_ => by have h9_ := fh_31_x_27; rw [z_, nx_33] at h9_; cases h9_
  have ne_x_27_x_34 : x_27 ≠ x_34 := fun z_ => by have h9_ := fh_31_x_27; rw [z_, nx_34] at h9_; cases h9_
  have ne_x_27_x_35 : x_27 ≠ x_35 := fun z_ => by have h9_ := fh_31_x_27; rw [z_, nx_35] at h9_; cases h9_
  have ne_x_27_x_36 : x_27 ≠ x_36 := fun z_ => by have h9_ := fh_31_x_27; rw [z_, nx_36] at h9_; cases h9_
  have ne_x_27_x_37 : x_27 ≠ x_37 := fun z_ => by have h9_ := fh_31_x_27; rw [z_, nx_37] at h9_; cases h9_
  have ne_q_30_x_32 : q_30 ≠ x_32 := fun z_ => by have h9_ := fh_31_q_30; rw [z_, nx_32] at h9_; cases h9_
  have ne_q_30_x_33 : q_30 ≠ x_33 := fun z_ => by have h9_ := fh_31_q_30; rw [z_, nx_33] at h9_; cases h9_
  have ne_q_30_x_34 : q_30 ≠ x_34 := fun z_ => by have h9_ := fh_31_q_30; rw [z_, nx_34] at h9_; cases h9_
  have ne_q_30_x_35 : q_30 ≠ x_35 := fun z_ => by have h9_ := fh_31_q_30; rw [z_, nx_35] at h9_; cases h9_
  have ne_q_30_x_36 : q_30 ≠ x_36 := fun z_ => by have h9_ := fh_31_q_30; rw [z_, nx_36] at h9_; cases h9_
  have ne_q_30_x_37 : q_30 ≠ x_37 := fun z_ => by have h9_ := fh_31_q_30; rw [z_, nx_37] at h9_; cases h9_
  have frhs_38 : ∀ z x, z ≠ a → h z = some x → h_ z = some x := fun z x hz hx => frhs_38x z x (fun y => by rw [y, nb_q_30] at hx; cases hx) (frh_31 z x hz hx)
  have ndhs_38a : ([x_37, x_36, x_35, x_34, x_33, x_32, q_30, x_27, x_26, x_25, x_24, x_23, x_22, q_20, q_16, q_12, q_9, x_6, x_5, x_4, x_3, q_1, a] : List Nat).Nodup := nd_app (new := [x_37, x_36, x_35, x_34, x_33, x_32]) (L := [q_30, x_27, x_26, x_25, x_24, x_23, x_22, q_20, q_16, q_12, q_9, x_6, x_5, x_4, x_3, q_1, a]) (q := q_30) ndxhs_38 ndh_31.1 (fun y hy => by simp only [List.mem_cons, List.not_mem_nil, or_false] at hy; rcases hy with rfl | rfl | rfl | rfl | rfl | rfl <;> assumption) ndh_31.2
  have ndhs_38 : ([x_37, x_36, x_35, x_34, x_33, x_32, q_30, x_27, x_26, x_25, x_24, x_23, x_22, q_20, q_16, q_12, q_9, x_6, x_5, x_4, x_3, q_1, a] : List Nat).Nodup ∧ ∀ x ∈ ([x_37, x_36, x_35, x_34, x_33, x_32, q_30, x_27, x_26, x_25, x_24, x_23, x_22, q_20, q_16, q_12, q_9, x_6, x_5, x_4, x_3, q_1, a] : List Nat), h_ x ≠ none := ⟨ndhs_38a, fun x hx => by
    simp only [List.mem_cons, List.not_mem_nil, or_false] at hx
    rcases hx with rfl | rfl | rfl | rfl | rfl | rfl | rfl | rfl | rfl | rfl | rfl | rfl | rfl | rfl | rfl | rfl | rfl | rfl | rfl | rfl | rfl | rfl | rfl
    · rw [fhs_38_x_37]; exact fun z => by cases z
    · rw [fhs_38_x_36]; exact fun z => by cases z
    · rw [fhs_38_x_35]; exact fun z => by cases z
    · rw [fhs_38_x_34]; exact fun z => by cases z
    · rw [fhs_38_x_33]; exact fun z => by cases z
    · rw [fhs_38_x_32]; exact fun z => by cases z
    · rw [fhs_38_q_30]; exact fun z => by cases z
    · rw [fhs_38_x_27]; exact fun z => by cases z
    · rw [fhs_38_x_26]; exact fun z => by cases z
    · rw [fhs_38_x_25]; exact fun z => by cases z
    · rw [fhs_38_x_24]; exact fun z => by cases z
    · rw [fhs_38_x_23]; exact fun z => by cases z
    · rw [fhs_38_x_22]; exact fun z => by cases z
    · rw [fhs_38_q_20]; exact fun z => by cases z
    · rw [fhs_38_q_16]; exact fun z => by cases z
    · rw [fhs_38_q_12]; exact fun z => by cases z
    · rw [fhs_38_q_9]; exact fun z => by cases z
    · rw [fhs_38_x_6]; exact fun z => by cases z
    · rw [fhs_38_x_5]; exact fun z => by cases z
    · rw [fhs_38_x_4]; exact fun z => by cases z
    · rw [fhs_38_x_3]; exact fun z => by cases z
    · rw [fhs_38_q_1]; exact fun z => by cases z
    · rw [fhs_38_a]; exact fun z => by cases z⟩
  obtain ⟨hs_38, ehs_38⟩ : ∃ z_, z_ = h_ := ⟨_, rfl⟩
  rw [← ehs_38]
  rw [← ehs_38] at fhs_38_a fhs_38_q_1 fhs_38_x_3 fhs_38_x_4 fhs_38_x_5 fhs_38_x_6 fhs_38_q_9 fhs_38_q_12 fhs_38_q_16 fhs_38_q_20 fhs_38_x_22 fhs_38_x_23 fhs_38_x_24 fhs_38_x_25 fhs_38_x_26 fhs_38_x_27 fhs_38_q_30 fhs_38_x_32 fhs_38_x_33 fhs_38_x_34 fhs_38_x_35 fhs_38_x_36 fhs_38_x_37 frhs_38 ndhs_38
  clear frhs_38x
  obtain ⟨h_39, eh_39⟩ : ∃ z_, z_ = f_up hs_38 a (.inr (7, [.ref q_1, .ref q_9, .ref q_12, .ref q_16, .ref q_20, .ref q_30, .int (iI (0))])) := ⟨_, rfl⟩
  have fh_39_q_1 : h_39 q_1 = some (.inr (6, [.ref x_3, .ref x_4, .ref x_5, .ref x_6])) := by rw [eh_39]; exact (f_up_n (Ne.symm ne_a_q_1)).trans fhs_38_q_1
  have fh_39_x_3 : h_39 x_3 = some (.inr (2, [.int (iI (0)), .ref g.2.2, .int (iI (0))])) := by rw [eh_39]; exact (f_up_n (Ne.symm ne_a_x_3)).trans fhs_38_x_3
  have fh_39_x_4 : h_39 x_4 = some (iar (g.2.1 0) 4 (cFil (fun _ => 0) 4 10000)) := by rw [eh_39]; exact (f_up_n (Ne.symm ne_a_x_4)).trans fhs_38_x_4
  have fh_39_x_5 : h_39 x_5 = some (iar (g.2.1 0) 4 (cFil (fun _ => 0) 4 10000)) := by rw [eh_39]; exact (f_up_n (Ne.symm ne_a_x_5)).trans fhs_38_x_5
  have fh_39_x_6 : h_39 x_6 = some (iar (g.2.1 0) 2 (cFil (fun _ => 0) 2 20000)) := by rw [eh_39]; exact (f_up_n (Ne.symm ne_a_x_6)).trans fhs_38_x_6
  have fh_39_q_9 : h_39 q_9 = some (iar (g.2.1 1) 2 (fun _ => 0)) := by rw [eh_39]; exact (f_up_n (Ne.symm ne_a_q_9)).trans fhs_38_q_9
  have fh_39_q_12 : h_39 q_12 = some (.inr (2, [.int (iI (0)), .ref g.2.2, .int (iI (0))])) := by rw [eh_39]; exact (f_up_n (Ne.symm ne_a_q_12)).trans fhs_38_q_12
  have fh_39_q_16 : h_39 q_16 = some (.inr (2, [.int (iI (0)), .ref g.2.2, .int (iI (0))])) := by rw [eh_39]; exact (f_up_n (Ne.symm ne_a_q_16)).trans fhs_38_q_16
  have fh_39_q_20 : h_39 q_20 = some (.inr (3, [.ref q_1, .ref x_22, .ref x_23, .ref x_24, .ref x_25])) := by rw [eh_39]; exact (f_up_n (Ne.symm ne_a_q_20)).trans fhs_38_q_20
  have fh_39_x_22 : h_39 x_22 = some (iar (g.2.1 0) 160 (cFil (fun _ => 0) 160 (-1))) := by rw [eh_39]; exact (f_up_n (Ne.symm ne_a_x_22)).trans fhs_38_x_22
  have fh_39_x_23 : h_39 x_23 = some (iar (g.2.1 0) 8 (fun _ => 0)) := by rw [eh_39]; exact (f_up_n (Ne.symm ne_a_x_23)).trans fhs_38_x_23
  have fh_39_x_24 : h_39 x_24 = some (iar (g.2.1 0) 8 (fun _ => 0)) := by rw [eh_39]; exact (f_up_n (Ne.symm ne_a_x_24)).trans fhs_38_x_24
  have fh_39_x_25 : h_39 x_25 = some (qar (g.2.1 3) 2 (fun z => if z ≤ 0 then some x_26 else some x_27)) := by rw [eh_39]; exact (f_up_n (Ne.symm ne_a_x_25)).trans fhs_38_x_25
  have fh_39_x_26 : h_39 x_26 = some (iar (g.2.1 0) 8 (fun _ => 0)) := by rw [eh_39]; exact (f_up_n (Ne.symm ne_a_x_26)).trans fhs_38_x_26
  have fh_39_x_27 : h_39 x_27 = some (iar (g.2.1 0) 8 (fun _ => 0)) := by rw [eh_39]; exact (f_up_n (Ne.symm ne_a_x_27)).trans fhs_38_x_27
  have fh_39_q_30 : h_39 q_30 = some (.inr (3, [.ref q_1, .ref x_32, .ref x_33, .ref x_34, .ref x_35])) := by rw [eh_39]; exact (f_up_n (Ne.symm ne_a_q_30)).trans fhs_38_q_30
  have fh_39_x_32 : h_39 x_32 = some (iar (g.2.1 0) 160 (cFil (fun _ => 0) 160 (-1))) := by rw [eh_39]; exact (f_up_n (Ne.symm ne_a_x_32)).trans fhs_38_x_32
  have fh_39_x_33 : h_39 x_33 = some (iar (g.2.1 0) 8 (fun _ => 0)) := by rw [eh_39]; exact (f_up_n (Ne.symm ne_a_x_33)).trans fhs_38_x_33
  have fh_39_x_34 : h_39 x_34 = some (iar (g.2.1 0) 8 (fun _ => 0)) := by rw [eh_39]; exact (f_up_n (Ne.symm ne_a_x_34)).trans fhs_38_x_34
  have fh_39_x_35 : h_39 x_35 = some (qar (g.2.1 3) 2 (fun z => if z ≤ 0 then some x_36 else some x_37)) := by rw [eh_39]; exact (f_up_n (Ne.symm ne_a_x_35)).trans fhs_38_x_35
  have fh_39_x_36 : h_39 x_36 = some (iar (g.2.1 0) 8 (fun _ => 0)) := by rw [eh_39]; exact (f_up_n (Ne.symm ne_a_x_36)).trans fhs_38_x_36
  have fh_39_x_37 : h_39 x_37 = some (iar (g.2.1 0) 8 (fun _ => 0)) := by rw [eh_39]; exact (f_up_n (Ne.symm ne_a_x_37)).trans fhs_38_x_37
  have fh_39_a : h_39 a = some (.inr (7, [.ref q_1, .ref q_9, .ref q_12, .ref q_16, .ref q_20, .ref q_30, .int (iI (0))])) := by rw [eh_39]; exact f_up_s _ _ _
  have frh_39 : ∀ z x, z ≠ a → h z = some x → h_39 z = some x := fun z x hz hx => by rw [eh_39, f_up_n hz]; exact frhs_38 z x hz hx
  have ndh_39 : ([x_37, x_36, x_35, x_34, x_33, x_32, q_30, x_27, x_26, x_25, x_24, x_23, x_22, q_20, q_16, q_12, q_9, x_6, x_5, x_4, x_3, q_1, a] : List Nat).Nodup ∧ ∀ x ∈ ([x_37, x_36, x_35, x_34, x_33, x_32, q_30, x_27, x_26, x_25, x_24, x_23, x_22, q_20, q_16, q_12, q_9, x_6, x_5, x_4, x_3, q_1, a] : List Nat), h_39 x ≠ none := ⟨ndhs_38.1, fun x hx => by rw [eh_39]; exact f_up_some (ndhs_38.2 x hx)⟩
  refine v_putf F (pc := 71) fp_X4_39_7 dX4_init_71 fhs_38_a rfl rfl (Nat.le_of_ble_eq_true rfl) (h' := h_39) eh_39.symm ?_
  refine v_aload_n F (pc := 74) dX4_init_74 rfl ?_
  refine v_iconst F (pc := 75) dX4_init_75 ?_
  obtain ⟨h_40, eh_40⟩ : ∃ z_, z_ = f_up h_39 a (.inr (7, [.ref q_1, .ref q_9, .ref q_12, .ref q_16, .ref q_20, .ref q_30, .int (iI (0))])) := ⟨_, rfl⟩
  have fh_40_q_1 : h_40 q_1 = some (.inr (6, [.ref x_3, .ref x_4, .ref x_5, .ref x_6])) := by rw [eh_40]; exact (f_up_n (Ne.symm ne_a_q_1)).trans fh_39_q_1
  have fh_40_x_3 : h_40 x_3 = some (.inr (2, [.int (iI (0)), .ref g.2.2, .int (iI (0))])) := by rw [eh_40]; exact (f_up_n (Ne.symm ne_a_x_3)).trans fh_39_x_3
  have fh_40_x_4 : h_40 x_4 = some (iar (g.2.1 0) 4 (cFil (fun _ => 0) 4 10000)) := by rw [eh_40]; exact (f_up_n (Ne.symm ne_a_x_4)).trans fh_39_x_4
  have fh_40_x_5 : h_40 x_5 = some (iar (g.2.1 0) 4 (cFil (fun _ => 0) 4 10000)) := by rw [eh_40]; exact (f_up_n (Ne.symm ne_a_x_5)).trans fh_39_x_5
  have fh_40_x_6 : h_40 x_6 = some (iar (g.2.1 0) 2 (cFil (fun _ => 0) 2 20000)) := by rw [eh_40]; exact (f_up_n (Ne.symm ne_a_x_6)).trans fh_39_x_6
  have fh_40_q_9 : h_40 q_9 = some (iar (g.2.1 1) 2 (fun _ => 0)) := by rw [eh_40]; exact (f_up_n (Ne.symm ne_a_q_9)).trans fh_39_q_9
  have fh_40_q_12 : h_40 q_12 = some (.inr (2, [.int (iI (0)), .ref g.2.2, .int (iI (0))])) := by rw [eh_40]; exact (f_up_n (Ne.symm ne_a_q_12)).trans fh_39_q_12
  have fh_40_q_16 : h_40 q_16 = some (.inr (2, [.int (iI (0)), .ref g.2.2, .int (iI (0))])) := by rw [eh_40]; exact (f_up_n (Ne.symm ne_a_q_16)).trans fh_39_q_16
  have fh_40_q_20 : h_40 q_20 = some (.inr (3, [.ref q_1, .ref x_22, .ref x_23, .ref x_24, .ref x_25])) := by rw [eh_40]; exact (f_up_n (Ne.symm ne_a_q_20)).trans fh_39_q_20
  have fh_40_x_22 : h_40 x_22 = some (iar (g.2.1 0) 160 (cFil (fun _ => 0) 160 (-1))) := by rw [eh_40]; exact (f_up_n (Ne.symm ne_a_x_22)).trans fh_39_x_22
  have fh_40_x_23 : h_40 x_23 = some (iar (g.2.1 0) 8 (fun _ => 0)) := by rw [eh_40]; exact (f_up_n (Ne.symm ne_a_x_23)).trans fh_39_x_23
  have fh_40_x_24 : h_40 x_24 = some (iar (g.2.1 0) 8 (fun _ => 0)) := by rw [eh_40]; exact (f_up_n (Ne.symm ne_a_x_24)).trans fh_39_x_24
  have fh_40_x_25 : h_40 x_25 = some (qar (g.2.1 3) 2 (fun z => if z ≤ 0 then some x_26 else some x_27)) := by rw [eh_40]; exact (f_up_n (Ne.symm ne_a_x_25)).trans fh_39_x_25
  have fh_40_x_26 : h_40 x_26 = some (iar (g.2.1 0) 8 (fun _ => 0)) := by rw [eh_40]; exact (f_up_n (Ne.symm ne_a_x_26)).trans fh_39_x_26
  have fh_40_x_27 : h_40 x_27 = some (iar (g.2.1 0) 8 (fun _ => 0)) := by rw [eh_40]; exact (f_up_n (Ne.symm ne_a_x_27)).trans fh_39_x_27
  have fh_40_q_30 : h_40 q_30 = some (.inr (3, [.ref q_1, .ref x_32, .ref x_33, .ref x_34, .ref x_35])) := by rw [eh_40]; exact (f_up_n (Ne.symm ne_a_q_30)).trans fh_39_q_30
  have fh_40_x_32 : h_40 x_32 = some (iar (g.2.1 0) 160 (cFil (fun _ => 0) 160 (-1))) := by rw [eh_40]; exact (f_up_n (Ne.symm ne_a_x_32)).trans fh_39_x_32
  have fh_40_x_33 : h_40 x_33 = some (iar (g.2.1 0) 8 (fun _ => 0)) := by rw [eh_40]; exact (f_up_n (Ne.symm ne_a_x_33)).trans fh_39_x_33
  have fh_40_x_34 : h_40 x_34 = some (iar (g.2.1 0) 8 (fun _ => 0)) := by rw [eh_40]; exact (f_up_n (Ne.symm ne_a_x_34)).trans fh_39_x_34
  have fh_40_x_35 : h_40 x_35 = some (qar (g.2.1 3) 2 (fun z => if z ≤ 0 then some x_36 else some x_37)) := by rw [eh_40]; exact (f_up_n (Ne.symm ne_a_x_35)).trans fh_39_x_35
  have fh_40_x_36 : h_40 x_36 = some (iar (g.2.1 0) 8 (fun _ => 0)) := by rw [eh_40]; exact (f_up_n (Ne.symm ne_a_x_36)).trans fh_39_x_36
  have fh_40_x_37 : h_40 x_37 = some (iar (g.2.1 0) 8 (fun _ => 0)) := by rw [eh_40]; exact (f_up_n (Ne.symm ne_a_x_37)).trans fh_39_x_37
  have fh_40_a : h_40 a = some (.inr (7, [.ref q_1, .ref q_9, .ref q_12, .ref q_16, .ref q_20, .ref q_30, .int (iI (0))])) := by rw [eh_40]; exact f_up_s _ _ _
  have frh_40 : ∀ z x, z ≠ a → h z = some x → h_40 z = some x := fun z x hz hx => by rw [eh_40, f_up_n hz]; exact frh_39 z x hz hx
  have ndh_40 : ([x_37, x_36, x_35, x_34, x_33, x_32, q_30, x_27, x_26, x_25, x_24, x_23, x_22, q_20, q_16, q_12, q_9, x_6, x_5, x_4, x_3, q_1, a] : List Nat).Nodup ∧ ∀ x ∈ ([x_37, x_36, x_35, x_34, x_33, x_32, q_30, x_27, x_26, x_25, x_24, x_23, x_22, q_20, q_16, q_12, q_9, x_6, x_5, x_4, x_3, q_1, a] : List Nat), h_40 x ≠ none := ⟨ndh_39.1, fun x hx => by rw [eh_40]; exact f_up_some (ndh_39.2 x hx)⟩
  refine v_putf F (pc := 76) fp_X4_42_7 dX4_init_76 fh_39_a rfl rfl (Nat.le_of_ble_eq_true rfl) (h' := h_40) eh_40.symm ?_
  refine v_vret F (pc := 79) dX4_init_79 rfl (Nat.le_of_ble_eq_true rfl) (Nat.le_of_ble_eq_true rfl) ?_
  refine ⟨rfl, (fun f => ([x_37, x_36, x_35, x_34, x_33, x_32, q_30, x_27, x_26, x_25, x_24, x_23, x_22, q_20, q_16, q_12, q_9, x_6, x_5, x_4, x_3, q_1, a] : List Nat).getD (([22, 21, 16, 15, 14, 13, 12, 11, 10, 9, 8, 7, 6, 5, 4, 3, 2, 1, 0, 20, 19, 18, 17] : List Nat).getD f 0) 0), rfl, ?_, ch_sub0 (fun f _ hf => ?_)⟩
  · refine ⟨fun f _ hl f' _ hl' e => ?_, fun f _ _ => ⟨(show (0 : Nat) ≠ 1 from by decide), (show (0 : Nat) ≠ 2 from by decide)⟩⟩
    have hT : ∀ f, f < 23 → ([22, 21, 16, 15, 14, 13, 12, 11, 10, 9, 8, 7, 6, 5, 4, 3, 2, 1, 0, 20, 19, 18, 17] : List Nat).getD f 0 < 23 := by decide
    have e2 := nd_inj ndh_40.1 (hT f (cl0 hl)) (hT f' (cl0 hl')) e
    exact (by decide : ∀ f, f < 23 → ∀ f', f' < 23 → ([22, 21, 16, 15, 14, 13, 12, 11, 10, 9, 8, 7, 6, 5, 4, 3, 2, 1, 0, 20, 19, 18, 17] : List Nat).getD f 0 = ([22, 21, 16, 15, 14, 13, 12, 11, 10, 9, 8, 7, 6, 5, 4, 3, 2, 1, 0, 20, 19, 18, 17] : List Nat).getD f' 0 → f = f') f (cl0 hl) f' (cl0 hl') e2
  · have hlt := cl0 hf
    rcases (show f = 0 ∨ f = 1 ∨ f = 2 ∨ f = 3 ∨ f = 4 ∨ f = 5 ∨ f = 6 ∨ f = 7 ∨ f = 8 ∨ f = 9 ∨ f = 10 ∨ f = 11 ∨ f = 12 ∨ f = 13 ∨ f = 14 ∨ f = 15 ∨ f = 16 ∨ f = 17 ∨ f = 18 ∨ f = 19 ∨ f = 20 ∨ f = 21 ∨ f = 22 by omega) with rfl | rfl | rfl | rfl | rfl | rfl | rfl | rfl | rfl | rfl | rfl | rfl | rfl | rfl | rfl | rfl | rfl | rfl | rfl | rfl | rfl | rfl | rfl
    · exact fh_40_a
    · exact fh_40_q_1
    · exact fh_40_q_9
    · exact fh_40_q_12
    · exact fh_40_q_16
    · exact fh_40_q_20
    · exact fh_40_x_22
    · exact fh_40_x_23
    · exact fh_40_x_24
    · exact fh_40_x_25
    · exact fh_40_x_26
    · exact fh_40_x_27
    · exact fh_40_q_30
    · exact fh_40_x_32
    · exact fh_40_x_33
    · exact fh_40_x_34
    · exact fh_40_x_35
    · exact fh_40_x_36
    · exact fh_40_x_37
    · exact fh_40_x_3
    · exact fh_40_x_4
    · exact fh_40_x_5
    · exact fh_40_x_6
