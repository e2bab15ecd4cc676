theorem nb_of {h h1 : fH} {A0 q : Nat} (hf : ∀ z x, z ≠ A0 → h z = some x → h1 z = some x) (hn : q ≠ A0) (nq : h1 q = none) : h q = none := by
  cases hq : h q with
  | none => rfl
  | some x =>
    have := hf q x hn hq
    rw [nq] at this
    cases this
def σ0 : sT := fun f => if f = 6 ∨ f = 7 then iup (iup (iup (iup (fun _ => 0) 0 10000) 1 10000) 2 10000) 3 10000 else if f = 8 then iup (iup (fun _ => 0) 0 20000) 1 20000 else fun _ => 0
theorem mok_of {L : List Nat} (h : L.Nodup) (hl : L.length = 18) : mok (fun f => L.getD (17 - mfs.idxOf f) 0) := by
  intro f hf f' hf' e
  have k : ∀ f ∈ mfs, 17 - mfs.idxOf f < 18 := fun f hf => by omega
  have e2 := nd_inj h (by rw [hl]; exact k f hf) (by rw [hl]; exact k f' hf') e
  exact (by decide : ∀ f ∈ mfs, ∀ f' ∈ mfs, 17 - mfs.idxOf f = 17 - mfs.idxOf f' → f = f') f hf f' hf' e2
-- X5_init
set_option maxRecDepth 100000 in
set_option maxHeartbeats 8000000 in
theorem k_X5_init (l : Launch) (g : gT) {h : fH} {a : Nat} (ha : h a = some (.inr (8, [.int (iI 0), .null, .null, .null, .null, .int (iI 0), .null, .null, .null, .null, .null, .null, .null, .null, .null, .null, .null, .int (iI 0), .int (iI 0), .null, .null]))) : CM l g yX5_init cX5_init 2 none ({ frames := 1, cells := 17, slots := 584, locals := 20 }) [.ref a] (h) (fun v h1 => v = none ∧ ∃ P : Nat → Nat, P 0 = a ∧ mok P ∧ ∀ x e, mheap g P σ0 x = some e → h1 x = some e) (noX) := by
  refine CM.of (lo := [some (.ref a), none]) (by decide) (Nat.le_of_ble_eq_true rfl) (by simp [Value.category]) rfl ?_
  intro pX eX sX mX bX tX cX AX F htab hmn
  have F : Fx pX l sX mX ([.ref a] : List Value).toArray tX cX cX5_init 2 none RX5 g AX := F
  have hinit : tX.name = "<init>" := hmn
  have fr0 : ∀ z x, z ≠ a → h z = some x → h z = some x := fun z x _ hx => hx
  have nd0 : ([a] : List Nat).Nodup ∧ ∀ x ∈ ([a] : List Nat), h x ≠ none := ⟨List.nodup_cons.mpr ⟨(fun z => by cases z), List.nodup_nil⟩, fun x hx => by rw [List.mem_singleton.mp hx, ha]; exact fun z => by cases z⟩
  refine v_aload_n F (pc := 0) dX5_init_0 rfl ?_
  refine v_objInit F (pc := 1) (tw_m_X5_1) tw_oi tw_oc dX5_init_1 (Nat.le_of_ble_eq_true rfl) (Nat.le_of_ble_eq_true rfl) (by decide) ?_
  refine v_aload_n F (pc := 4) dX5_init_4 rfl ?_
  refine v_bipush F (pc := 5) dX5_init_5 (by decide) ?_
  refine v_newi F (pc := 7) (n := 8) dX5_init_7 (by decide) (Nat.le_of_ble_eq_true rfl) (Nat.le_of_ble_eq_true rfl) (fun q_1 nq_1 => ?_)
  have ne_a_q_1 : a ≠ q_1 := fun z_ => by have h_ := ha; rw [z_, nq_1] at h_; cases h_
  obtain ⟨h_2, eh_2⟩ : ∃ z_, z_ = f_up h q_1 (iar (g.2.1 0) 8 (fun _ => 0)) := ⟨_, rfl⟩
  rw [← eh_2]
  have fh_2_a : h_2 a = some (.inr (8, [.int (iI (0)), .null, .null, .null, .null, .int (iI (0)), .null, .null, .null, .null, .null, .null, .null, .null, .null, .null, .null, .int (iI (0)), .int (iI (0)), .null, .null])) := by rw [eh_2]; exact (f_up_n ne_a_q_1).trans ha
  have fh_2_q_1 : h_2 q_1 = some (iar (g.2.1 0) 8 (fun _ => 0)) := by rw [eh_2]; exact f_up_s _ _ _
  have frh_2 : ∀ z x, z ≠ a → h z = some x → h_2 z = some x := fun z x hz hx => by rw [eh_2, f_up_n (fun y => by have h_ := fr0 z x hz hx; rw [y, nq_1] at h_; cases h_)]; exact fr0 z x hz hx
  have nb_q_1 : h q_1 = none := nb_of fr0 (Ne.symm ne_a_q_1) nq_1
  have ndh_2 := al_cons (h' := h_2) nd0.1 nd0.2 nq_1 (by rw [fh_2_q_1]; exact fun z => by cases z) (fun x _ hx => by rw [eh_2]; exact f_up_some hx)
  obtain ⟨h_3, eh_3⟩ : ∃ z_, z_ = f_up h_2 a (.inr (8, [.int (iI (0)), .ref q_1, .null, .null, .null, .int (iI (0)), .null, .null, .null, .null, .null, .null, .null, .null, .null, .null, .null, .int (iI (0)), .int (iI (0)), .null, .null])) := ⟨_, rfl⟩
  have fh_3_q_1 : h_3 q_1 = some (iar (g.2.1 0) 8 (fun _ => 0)) := by rw [eh_3]; exact (f_up_n (Ne.symm ne_a_q_1)).trans fh_2_q_1
  have fh_3_a : h_3 a = some (.inr (8, [.int (iI (0)), .ref q_1, .null, .null, .null, .int (iI (0)), .null, .null, .null, .null, .null, .null, .null, .null, .null, .null, .null, .int (iI (0)), .int (iI (0)), .null, .null])) := by rw [eh_3]; exact f_up_s _ _ _
  have frh_3 : ∀ z x, z ≠ a → h z = some x → h_3 z = some x := fun z x hz hx => by rw [eh_3, f_up_n hz]; exact frh_2 z x hz hx
  have ndh_3 : ([q_1, a] : List Nat).Nodup ∧ ∀ x ∈ ([q_1, a] : List Nat), h_3 x ≠ none := ⟨ndh_2.1, fun x hx => by rw [eh_3]; exact f_up_some (ndh_2.2 x hx)⟩
  refine v_putF F (pc := 9) fp_X5_7_8 dX5_init_9 fh_2_a hinit rfl rfl (Nat.le_of_ble_eq_true rfl) (h' := h_3) eh_3.symm ?_
  refine v_aload_n F (pc := 12) dX5_init_12 rfl ?_
  refine v_bipush F (pc := 13) dX5_init_13 (by decide) ?_
  refine v_newi F (pc := 15) (n := 8) dX5_init_15 (by decide) (Nat.le_of_ble_eq_true rfl) (Nat.le_of_ble_eq_true rfl) (fun q_4 nq_4 => ?_)
  have ne_a_q_4 : a ≠ q_4 := fun z_ => by have h_ := fh_3_a; rw [z_, nq_4] at h_; cases h_
  have ne_q_1_q_4 : q_1 ≠ q_4 := fun z_ => by have h_ := fh_3_q_1; rw [z_, nq_4] at h_; cases h_
  obtain ⟨h_5, eh_5⟩ : ∃ z_, z_ = f_up h_3 q_4 (iar (g.2.1 0) 8 (fun _ => 0)) := ⟨_, rfl⟩
  rw [← eh_5]
  have fh_5_a : h_5 a = some (.inr (8, [.int (iI (0)), .ref q_1, .null, .null, .null, .int (iI (0)), .null, .null, .null, .null, .null, .null, .null, .null, .null, .null, .null, .int (iI (0)), .int (iI (0)), .null, .null])) := by rw [eh_5]; exact (f_up_n ne_a_q_4).trans fh_3_a
  have fh_5_q_1 : h_5 q_1 = some (iar (g.2.1 0) 8 (fun _ => 0)) := by rw [eh_5]; exact (f_up_n ne_q_1_q_4).trans fh_3_q_1
  have fh_5_q_4 : h_5 q_4 = some (iar (g.2.1 0) 8 (fun _ => 0)) := by rw [eh_5]; exact f_up_s _ _ _
  have frh_5 : ∀ z x, z ≠ a → h z = some x → h_5 z = some x := fun z x hz hx => by rw [eh_5, f_up_n (fun y => by have h_ := frh_3 z x hz hx; rw [y, nq_4] at h_; cases h_)]; exact frh_3 z x hz hx
  have nb_q_4 : h q_4 = none := nb_of frh_3 (Ne.symm ne_a_q_4) nq_4
  have ndh_5 := al_cons (h' := h_5) ndh_3.1 ndh_3.2 nq_4 (by rw [fh_5_q_4]; exact fun z => by cases z) (fun x _ hx => by rw [eh_5]; exact f_up_some hx)
  obtain ⟨h_6, eh_6⟩ : ∃ z_, z_ = f_up h_5 a (.inr (8, [.int (iI (0)), .ref q_1, .ref q_4, .null, .null, .int (iI (0)), .null, .null, .null, .null, .null, .null, .null, .null, .null, .null, .null, .int (iI (0)), .int (iI (0)), .null, .null])) := ⟨_, rfl⟩
  have fh_6_q_1 : h_6 q_1 = some (iar (g.2.1 0) 8 (fun _ => 0)) := by rw [eh_6]; exact (f_up_n (Ne.symm ne_a_q_1)).trans fh_5_q_1
  have fh_6_q_4 : h_6 q_4 = some (iar (g.2.1 0) 8 (fun _ => 0)) := by rw [eh_6]; exact (f_up_n (Ne.symm ne_a_q_4)).trans fh_5_q_4
  have fh_6_a : h_6 a = some (.inr (8, [.int (iI (0)), .ref q_1, .ref q_4, .null, .null, .int (iI (0)), .null, .null, .null, .null, .null, .null, .null, .null, .null, .null, .null, .int (iI (0)), .int (iI (0)), .null, .null])) := by rw [eh_6]; exact f_up_s _ _ _
  have frh_6 : ∀ z x, z ≠ a → h z = some x → h_6 z = some x := fun z x hz hx => by rw [eh_6, f_up_n hz]; exact frh_5 z x hz hx
  have ndh_6 : ([q_4, q_1, a] : List Nat).Nodup ∧ ∀ x ∈ ([q_4, q_1, a] : List Nat), h_6 x ≠ none := ⟨ndh_5.1, fun x hx => by rw [eh_6]; exact f_up_some (ndh_5.2 x hx)⟩
  refine v_putF F (pc := 17) fp_X5_13_8 dX5_init_17 fh_5_a hinit rfl rfl (Nat.le_of_ble_eq_true rfl) (h' := h_6) eh_6.symm ?_
  refine v_aload_n F (pc := 20) dX5_init_20 rfl ?_
  refine v_bipush F (pc := 21) dX5_init_21 (by decide) ?_
  refine v_newi F (pc := 23) (n := 8) dX5_init_23 (by decide) (Nat.le_of_ble_eq_true rfl) (Nat.le_of_ble_eq_true rfl) (fun q_7 nq_7 => ?_)
  have ne_a_q_7 : a ≠ q_7 := fun z_ => by have h_ := fh_6_a; rw [z_, nq_7] at h_; cases h_
  have ne_q_1_q_7 : q_1 ≠ q_7 := fun z_ => by have h_ := fh_6_q_1; rw [z_, nq_7] at h_; cases h_
  have ne_q_4_q_7 : q_4 ≠ q_7 := fun z_ => by have h_ := fh_6_q_4; rw [z_, nq_7] at h_; cases h_
  obtain ⟨h_8, eh_8⟩ : ∃ z_, z_ = f_up h_6 q_7 (iar (g.2.1 0) 8 (fun _ => 0)) := ⟨_, rfl⟩
  rw [← eh_8]
  have fh_8_a : h_8 a = some (.inr (8, [.int (iI (0)), .ref q_1, .ref q_4, .null, .null, .int (iI (0)), .null, .null, .null, .null, .null, .null, .null, .null, .null, .null, .null, .int (iI (0)), .int (iI (0)), .null, .null])) := by rw [eh_8]; exact (f_up_n ne_a_q_7).trans fh_6_a
  have fh_8_q_1 : h_8 q_1 = some (iar (g.2.1 0) 8 (fun _ => 0)) := by rw [eh_8]; exact (f_up_n ne_q_1_q_7).trans fh_6_q_1
  have fh_8_q_4 : h_8 q_4 = some (iar (g.2.1 0) 8 (fun _ => 0)) := by rw [eh_8]; exact (f_up_n ne_q_4_q_7).trans fh_6_q_4
  have fh_8_q_7 : h_8 q_7 = some (iar (g.2.1 0) 8 (fun _ => 0)) := by rw [eh_8]; exact f_up_s _ _ _
  have frh_8 : ∀ z x, z ≠ a → h z = some x → h_8 z = some x := fun z x hz hx => by rw [eh_8, f_up_n (fun y => by have h_ := frh_6 z x hz hx; rw [y, nq_7] at h_; cases h_)]; exact frh_6 z x hz hx
  have nb_q_7 : h q_7 = none := nb_of frh_6 (Ne.symm ne_a_q_7) nq_7
  have ndh_8 := al_cons (h' := h_8) ndh_6.1 ndh_6.2 nq_7 (by rw [fh_8_q_7]; exact fun z => by cases z) (fun x _ hx => by rw [eh_8]; exact f_up_some hx)
  obtain ⟨h_9, eh_9⟩ : ∃ z_, z_ = f_up h_8 a (.inr (8, [.int (iI (0)), .ref q_1, .ref q_4, .ref q_7, .null, .int (iI (0)), .null, .null, .null, .null, .null, .null, .null, .null, .null, .null, .null, .int (iI (0)), .int (iI (0)), .null, .null])) := ⟨_, rfl⟩
  have fh_9_q_1 : h_9 q_1 = some (iar (g.2.1 0) 8 (fun _ => 0)) := by rw [eh_9]; exact (f_up_n (Ne.symm ne_a_q_1)).trans fh_8_q_1
  have fh_9_q_4 : h_9 q_4 = some (iar (g.2.1 0) 8 (fun _ => 0)) := by rw [eh_9]; exact (f_up_n (Ne.symm ne_a_q_4)).trans fh_8_q_4
  have fh_9_q_7 : h_9 q_7 = some (iar (g.2.1 0) 8 (fun _ => 0)) := by rw [eh_9]; exact (f_up_n (Ne.symm ne_a_q_7)).trans fh_8_q_7
  have fh_9_a : h_9 a = some (.inr (8, [.int (iI (0)), .ref q_1, .ref q_4, .ref q_7, .null, .int (iI (0)), .null, .null, .null, .null, .null, .null, .null, .null, .null, .null, .null, .int (iI (0)), .int (iI (0)), .null, .null])) := by rw [eh_9]; exact f_up_s _ _ _
  have frh_9 : ∀ z x, z ≠ a → h z = some x → h_9 z = some x := fun z x hz hx => by rw [eh_9, f_up_n hz]; exact frh_8 z x hz hx
  have ndh_9 : ([q_7, q_4, q_1, a] : List Nat).Nodup ∧ ∀ x ∈ ([q_7, q_4, q_1, a] : List Nat), h_9 x ≠ none := ⟨ndh_8.1, fun x hx => by rw [eh_9]; exact f_up_some (ndh_8.2 x hx)⟩
  refine v_putF F (pc := 25) fp_X5_16_8 dX5_init_25 fh_8_a hinit rfl rfl (Nat.le_of_ble_eq_true rfl) (h' := h_9) eh_9.symm ?_
  refine v_aload_n F (pc := 28) dX5_init_28 rfl ?_
  refine v_bipush F (pc := 29) dX5_init_29 (by decide) ?_
  refine v_newi F (pc := 31) (n := 8) dX5_init_31 (by decide) (Nat.le_of_ble_eq_true rfl) (Nat.le_of_ble_eq_true rfl) (fun q_10 nq_10 => ?_)
  have ne_a_q_10 : a ≠ q_10 := fun z_ => by have h_ := fh_9_a; rw [z_, nq_10] at h_; cases h_
  have ne_q_1_q_10 : q_1 ≠ q_10 := fun z_ => by have h_ := fh_9_q_1; rw [z_, nq_10] at h_; cases h_
  have ne_q_4_q_10 : q_4 ≠ q_10 := fun z_ => by have h_ := fh_9_q_4; rw [z_, nq_10] at h_; cases h_
  have ne_q_7_q_10 : q_7 ≠ q_10 := fun z_ => by have h_ := fh_9_q_7; rw [z_, nq_10] at h_; cases h_
  obtain ⟨h_11, eh_11⟩ : ∃ z_, z_ = f_up h_9 q_10 (iar (g.2.1 0) 8 (fun _ => 0)) := ⟨_, rfl⟩
  rw [← eh_11]
  have fh_11_a : h_11 a = some (.inr (8, [.int (iI (0)), .ref q_1, .ref q_4, .ref q_7, .null, .int (iI (0)), .null, .null, .null, .null, .null, .null, .null, .null, .null, .null, .null, .int (iI (0)), .int (iI (0)), .null, .null])) := by rw [eh_11]; exact (f_up_n ne_a_q_10).trans fh_9_a
  have fh_11_q_1 : h_11 q_1 = some (iar (g.2.1 0) 8 (fun _ => 0)) := by rw [eh_11]; exact (f_up_n ne_q_1_q_10).trans fh_9_q_1
  have fh_11_q_4 : h_11 q_4 = some (iar (g.2.1 0) 8 (fun _ => 0)) := by rw [eh_11]; exact (f_up_n ne_q_4_q_10).trans fh_9_q_4
  have fh_11_q_7 : h_11 q_7 = some (iar (g.2.1 0) 8 (fun _ => 0)) := by rw [eh_11]; exact (f_up_n ne_q_7_q_10).trans fh_9_q_7
  have fh_11_q_10 : h_11 q_10 = some (iar (g.2.1 0) 8 (fun _ => 0)) := by rw [eh_11]; exact f_up_s _ _ _
  have frh_11 : ∀ z x, z ≠ a → h z = some x → h_11 z = some x := fun z x hz hx => by rw [eh_11, f_up_n (fun y => by have h_ := frh_9 z x hz hx; rw [y, nq_10] at h_; cases h_)]; exact frh_9 z x hz hx
  have nb_q_10 : h q_10 = none := nb_of frh_9 (Ne.symm ne_a_q_10) nq_10
  have ndh_11 := al_cons (h' := h_11) ndh_9.1 ndh_9.2 nq_10 (by rw [fh_11_q_10]; exact fun z => by cases z) (fun x _ hx => by rw [eh_11]; exact f_up_some hx)
  obtain ⟨h_12, eh_12⟩ : ∃ z_, z_ = f_up h_11 a (.inr (8, [.int (iI (0)), .ref q_1, .ref q_4, .ref q_7, .ref q_10, .int (iI (0)), .null, .null, .null, .null, .null, .null, .null, .null, .null, .null, .null, .int (iI (0)), .int (iI (0)), .null, .null])) := ⟨_, rfl⟩
  have fh_12_q_1 : h_12 q_1 = some (iar (g.2.1 0) 8 (fun _ => 0)) := by rw [eh_12]; exact (f_up_n (Ne.symm ne_a_q_1)).trans fh_11_q_1
  have fh_12_q_4 : h_12 q_4 = some (iar (g.2.1 0) 8 (fun _ => 0)) := by rw [eh_12]; exact (f_up_n (Ne.symm ne_a_q_4)).trans fh_11_q_4
  have fh_12_q_7 : h_12 q_7 = some (iar (g.2.1 0) 8 (fun _ => 0)) := by rw [eh_12]; exact (f_up_n (Ne.symm ne_a_q_7)).trans fh_11_q_7
  have fh_12_q_10 : h_12 q_10 = some (iar (g.2.1 0) 8 (fun _ => 0)) := by rw [eh_12]; exact (f_up_n (Ne.symm ne_a_q_10)).trans fh_11_q_10
  have fh_12_a : h_12 a = some (.inr (8, [.int (iI (0)), .ref q_1, .ref q_4, .ref q_7, .ref q_10, .int (iI (0)), .null, .null, .null, .null, .null, .null, .null, .null, .null, .null, .null, .int (iI (0)), .int (iI (0)), .null, .null])) := by rw [eh_12]; exact f_up_s _ _ _
  have frh_12 : ∀ z x, z ≠ a → h z = some x → h_12 z = some x := fun z x hz hx => by rw [eh_12, f_up_n hz]; exact frh_11 z x hz hx
  have ndh_12 : ([q_10, q_7, q_4, q_1, a] : List Nat).Nodup ∧ ∀ x ∈ ([q_10, q_7, q_4, q_1, a] : List Nat), h_12 x ≠ none := ⟨ndh_11.1, fun x hx => by rw [eh_12]; exact f_up_some (ndh_11.2 x hx)⟩
  refine v_putF F (pc := 33) fp_X5_19_8 dX5_init_33 fh_11_a hinit rfl rfl (Nat.le_of_ble_eq_true rfl) (h' := h_12) eh_12.symm ?_
  refine v_aload_n F (pc := 36) dX5_init_36 rfl ?_
  refine v_iconst F (pc := 37) dX5_init_37 ?_
  refine v_newi F (pc := 38) (n := 4) dX5_init_38 (by decide) (Nat.le_of_ble_eq_true rfl) (Nat.le_of_ble_eq_true rfl) (fun q_13 nq_13 => ?_)
  have ne_a_q_13 : a ≠ q_13 := fun z_ => by have h_ := fh_12_a; rw [z_, nq_13] at h_; cases h_
  have ne_q_1_q_13 : q_1 ≠ q_13 := fun z_ => by have h_ := fh_12_q_1; rw [z_, nq_13] at h_; cases h_
  have ne_q_4_q_13 : q_4 ≠ q_13 := fun z_ => by have h_ := fh_12_q_4; rw [z_, nq_13] at h_; cases h_
  have ne_q_7_q_13 : q_7 ≠ q_13 := fun z_ => by have h_ := fh_12_q_7; rw [z_, nq_13] at h_; cases h_
  have ne_q_10_q_13 : q_10 ≠ q_13 := fun z_ => by have h_ := fh_12_q_10; rw [z_, nq_13] at h_; cases h_
  obtain ⟨h_14, eh_14⟩ : ∃ z_, z_ = f_up h_12 q_13 (iar (g.2.1 0) 4 (fun _ => 0)) := ⟨_, rfl⟩
  rw [← eh_14]
  have fh_14_a : h_14 a = some (.inr (8, [.int (iI (0)), .ref q_1, .ref q_4, .ref q_7, .ref q_10, .int (iI (0)), .null, .null, .null, .null, .null, .null, .null, .null, .null, .null, .null, .int (iI (0)), .int (iI (0)), .null, .null])) := by rw [eh_14]; exact (f_up_n ne_a_q_13).trans fh_12_a
  have fh_14_q_1 : h_14 q_1 = some (iar (g.2.1 0) 8 (fun _ => 0)) := by rw [eh_14]; exact (f_up_n ne_q_1_q_13).trans fh_12_q_1
  have fh_14_q_4 : h_14 q_4 = some (iar (g.2.1 0) 8 (fun _ => 0)) := by rw [eh_14]; exact (f_up_n ne_q_4_q_13).trans fh_12_q_4
  have fh_14_q_7 : h_14 q_7 = some (iar (g.2.1 0) 8 (fun _ => 0)) := by rw [eh_14]; exact (f_up_n ne_q_7_q_13).trans fh_12_q_7
  have fh_14_q_10 : h_14 q_10 = some (iar (g.2.1 0) 8 (fun _ => 0)) := by rw [eh_14]; exact (f_up_n ne_q_10_q_13).trans fh_12_q_10
  have fh_14_q_13 : h_14 q_13 = some (iar (g.2.1 0) 4 (fun _ => 0)) := by rw [eh_14]; exact f_up_s _ _ _
  have frh_14 : ∀ z x, z ≠ a → h z = some x → h_14 z = some x := fun z x hz hx => by rw [eh_14, f_up_n (fun y => by have h_ := frh_12 z x hz hx; rw [y, nq_13] at h_; cases h_)]; exact frh_12 z x hz hx
  have nb_q_13 : h q_13 = none := nb_of frh_12 (Ne.symm ne_a_q_13) nq_13
  have ndh_14 := al_cons (h' := h_14) ndh_12.1 ndh_12.2 nq_13 (by rw [fh_14_q_13]; exact fun z => by cases z) (fun x _ hx => by rw [eh_14]; exact f_up_some hx)
  obtain ⟨h_15, eh_15⟩ : ∃ z_, z_ = f_up h_14 a (.inr (8, [.int (iI (0)), .ref q_1, .ref q_4, .ref q_7, .ref q_10, .int (iI (0)), .ref q_13, .null, .null, .null, .null, .null, .null, .null, .null, .null, .null, .int (iI (0)), .int (iI (0)), .null, .null])) := ⟨_, rfl⟩
  have fh_15_q_1 : h_15 q_1 = some (iar (g.2.1 0) 8 (fun _ => 0)) := by rw [eh_15]; exact (f_up_n (Ne.symm ne_a_q_1)).trans fh_14_q_1
  have fh_15_q_4 : h_15 q_4 = some (iar (g.2.1 0) 8 (fun _ => 0)) := by rw [eh_15]; exact (f_up_n (Ne.symm ne_a_q_4)).trans fh_14_q_4
  have fh_15_q_7 : h_15 q_7 = some (iar (g.2.1 0) 8 (fun _ => 0)) := by rw [eh_15]; exact (f_up_n (Ne.symm ne_a_q_7)).trans fh_14_q_7
  have fh_15_q_10 : h_15 q_10 = some (iar (g.2.1 0) 8 (fun _ => 0)) := by rw [eh_15]; exact (f_up_n (Ne.symm ne_a_q_10)).trans fh_14_q_10
  have fh_15_q_13 : h_15 q_13 = some (iar (g.2.1 0) 4 (fun _ => 0)) := by rw [eh_15]; exact (f_up_n (Ne.symm ne_a_q_13)).trans fh_14_q_13
  have fh_15_a : h_15 a = some (.inr (8, [.int (iI (0)), .ref q_1, .ref q_4, .ref q_7, .ref q_10, .int (iI (0)), .ref q_13, .null, .null, .null, .null, .null, .null, .null, .null, .null, .null, .int (iI (0)), .int (iI (0)), .null, .null])) := by rw [eh_15]; exact f_up_s _ _ _
  have frh_15 : ∀ z x, z ≠ a → h z = some x → h_15 z = some x := fun z x hz hx => by rw [eh_15, f_up_n hz]; exact frh_14 z x hz hx
  have ndh_15 : ([q_13, q_10, q_7, q_4, q_1, a] : List Nat).Nodup ∧ ∀ x ∈ ([q_13, q_10, q_7, q_4, q_1, a] : List Nat), h_15 x ≠ none := ⟨ndh_14.1, fun x hx => by rw [eh_15]; exact f_up_some (ndh_14.2 x hx)⟩
  refine v_putF F (pc := 40) fp_X5_22_8 dX5_init_40 fh_14_a hinit rfl rfl (Nat.le_of_ble_eq_true rfl) (h' := h_15) eh_15.symm ?_
  refine v_aload_n F (pc := 43) dX5_init_43 rfl ?_
  refine v_iconst F (pc := 44) dX5_init_44 ?_
  refine v_newi F (pc := 45) (n := 4) dX5_init_45 (by decide) (Nat.le_of_ble_eq_true rfl) (Nat.le_of_ble_eq_true rfl) (fun q_16 nq_16 => ?_)
  have ne_a_q_16 : a ≠ q_16 := fun z_ => by have h_ := fh_15_a; rw [z_, nq_16] at h_; cases h_
  have ne_q_1_q_16 : q_1 ≠ q_16 := fun z_ => by have h_ := fh_15_q_1; rw [z_, nq_16] at h_; cases h_
  have ne_q_4_q_16 : q_4 ≠ q_16 := fun z_ => by have h_ := fh_15_q_4; rw [z_, nq_16] at h_; cases h_
  have ne_q_7_q_16 : q_7 ≠ q_16 := fun z_ => by have h_ := fh_15_q_7; rw [z_, nq_16] at h_; cases h_
  have ne_q_10_q_16 : q_10 ≠ q_16 := fun z_ => by have h_ := fh_15_q_10; rw [z_, nq_16] at h_; cases h_
  have ne_q_13_q_16 : q_13 ≠ q_16 := fun z_ => by have h_ := fh_15_q_13; rw [z_, nq_16] at h_; cases h_
  obtain ⟨h_17, eh_17⟩ : ∃ z_, z_ = f_up h_15 q_16 (iar (g.2.1 0) 4 (fun _ => 0)) := ⟨_, rfl⟩
  rw [← eh_17]
  have fh_17_a : h_17 a = some (.inr (8, [.int (iI (0)), .ref q_1, .ref q_4, .ref q_7, .ref q_10, .int (iI (0)), .ref q_13, .null, .null, .null, .null, .null, .null, .null, .null, .null, .null, .int (iI (0)), .int (iI (0)), .null, .null])) := by rw [eh_17]; exact (f_up_n ne_a_q_16).trans fh_15_a
  have fh_17_q_1 : h_17 q_1 = some (iar (g.2.1 0) 8 (fun _ => 0)) := by rw [eh_17]; exact (f_up_n ne_q_1_q_16).trans fh_15_q_1
  have fh_17_q_4 : h_17 q_4 = some (iar (g.2.1 0) 8 (fun _ => 0)) := by rw [eh_17]; exact (f_up_n ne_q_4_q_16).trans fh_15_q_4
  have fh_17_q_7 : h_17 q_7 = some (iar (g.2.1 0) 8 (fun _ => 0)) := by rw [eh_17]; exact (f_up_n ne_q_7_q_16).trans fh_15_q_7
  have fh_17_q_10 : h_17 q_10 = some (iar (g.2.1 0) 8 (fun _ => 0)) := by rw [eh_17]; exact (f_up_n ne_q_10_q_16).trans fh_15_q_10
  have fh_17_q_13 : h_17 q_13 = some (iar (g.2.1 0) 4 (fun _ => 0)) := by rw [eh_17]; exact (f_up_n ne_q_13_q_16).trans fh_15_q_13
  have fh_17_q_16 : h_17 q_16 = some (iar (g.2.1 0) 4 (fun _ => 0)) := by rw [eh_17]; exact f_up_s _ _ _
  have frh_17 : ∀ z x, z ≠ a → h z = some x → h_17 z = some x := fun z x hz hx => by rw [eh_17, f_up_n (fun y => by have h_ := frh_15 z x hz hx; rw [y, nq_16] at h_; cases h_)]; exact frh_15 z x hz hx
  have nb_q_16 : h q_16 = none := nb_of frh_15 (Ne.symm ne_a_q_16) nq_16
  have ndh_17 := al_cons (h' := h_17) ndh_15.1 ndh_15.2 nq_16 (by rw [fh_17_q_16]; exact fun z => by cases z) (fun x _ hx => by rw [eh_17]; exact f_up_some hx)
  obtain ⟨h_18, eh_18⟩ : ∃ z_, z_ = f_up h_17 a (.inr (8, [.int (iI (0)), .ref q_1, .ref q_4, .ref q_7, .ref q_10, .int (iI (0)), .ref q_13, .ref q_16, .null, .null, .null, .null, .null, .null, .null, .null, .null, .int (iI (0)), .int (iI (0)), .null, .null])) := ⟨_, rfl⟩
  have fh_18_q_1 : h_18 q_1 = some (iar (g.2.1 0) 8 (fun _ => 0)) := by rw [eh_18]; exact (f_up_n (Ne.symm ne_a_q_1)).trans fh_17_q_1
  have fh_18_q_4 : h_18 q_4 = some (iar (g.2.1 0) 8 (fun _ => 0)) := by rw [eh_18]; exact (f_up_n (Ne.symm ne_a_q_4)).trans fh_17_q_4
  have fh_18_q_7 : h_18 q_7 = some (iar (g.2.1 0) 8 (fun _ => 0)) := by rw [eh_18]; exact (f_up_n (Ne.symm ne_a_q_7)).trans fh_17_q_7
  have fh_18_q_10 : h_18 q_10 = some (iar (g.2.1 0) 8 (fun _ => 0)) := by rw [eh_18]; exact (f_up_n (Ne.symm ne_a_q_10)).trans fh_17_q_10
  have fh_18_q_13 : h_18 q_13 = some (iar (g.2.1 0) 4 (fun _ => 0)) := by rw [eh_18]; exact (f_up_n (Ne.symm ne_a_q_13)).trans fh_17_q_13
  have fh_18_q_16 : h_18 q_16 = some (iar (g.2.1 0) 4 (fun _ => 0)) := by rw [eh_18]; exact (f_up_n (Ne.symm ne_a_q_16)).trans fh_17_q_16
  have fh_18_a : h_18 a = some (.inr (8, [.int (iI (0)), .ref q_1, .ref q_4, .ref q_7, .ref q_10, .int (iI (0)), .ref q_13, .ref q_16, .null, .null, .null, .null, .null, .null, .null, .null, .null, .int (iI (0)), .int (iI (0)), .null, .null])) := by rw [eh_18]; exact f_up_s _ _ _
  have frh_18 : ∀ z x, z ≠ a → h z = some x → h_18 z = some x := fun z x hz hx => by rw [eh_18, f_up_n hz]; exact frh_17 z x hz hx
  have ndh_18 : ([q_16, q_13, q_10, q_7, q_4, q_1, a] : List Nat).Nodup ∧ ∀ x ∈ ([q_16, q_13, q_10, q_7, q_4, q_1, a] : List Nat), h_18 x ≠ none := ⟨ndh_17.1, fun x hx => by rw [eh_18]; exact f_up_some (ndh_17.2 x hx)⟩
  refine v_putF F (pc := 47) fp_X5_25_8 dX5_init_47 fh_17_a hinit rfl rfl (Nat.le_of_ble_eq_true rfl) (h' := h_18) eh_18.symm ?_
  refine v_aload_n F (pc := 50) dX5_init_50 rfl ?_
  refine v_iconst F (pc := 51) dX5_init_51 ?_
  refine v_newi F (pc := 52) (n := 2) dX5_init_52 (by decide) (Nat.le_of_ble_eq_true rfl) (Nat.le_of_ble_eq_true rfl) (fun q_19 nq_19 => ?_)
  have ne_a_q_19 : a ≠ q_19 := fun z_ => by have h_ := fh_18_a; rw [z_, nq_19] at h_; cases h_
  have ne_q_1_q_19 : q_1 ≠ q_19 := fun z_ => by have h_ := fh_18_q_1; rw [z_, nq_19] at h_; cases h_
  have ne_q_4_q_19 : q_4 ≠ q_19 := fun z_ => by have h_ := fh_18_q_4; rw [z_, nq_19] at h_; cases h_
  have ne_q_7_q_19 : q_7 ≠ q_19 := fun z_ => by have h_ := fh_18_q_7; rw [z_, nq_19] at h_; cases h_
  have ne_q_10_q_19 : q_10 ≠ q_19 := fun z_ => by have h_ := fh_18_q_10; rw [z_, nq_19] at h_; cases h_
  have ne_q_13_q_19 : q_13 ≠ q_19 := fun z_ => by have h_ := fh_18_q_13; rw [z_, nq_19] at h_; cases h_
  have ne_q_16_q_19 : q_16 ≠ q_19 := fun z_ => by have h_ := fh_18_q_16; rw [z_, nq_19] at h_; cases h_
  obtain ⟨h_20, eh_20⟩ : ∃ z_, z_ = f_up h_18 q_19 (iar (g.2.1 0) 2 (fun _ => 0)) := ⟨_, rfl⟩
  rw [← eh_20]
  have fh_20_a : h_20 a = some (.inr (8, [.int (iI (0)), .ref q_1, .ref q_4, .ref q_7, .ref q_10, .int (iI (0)), .ref q_13, .ref q_16, .null, .null, .null, .null, .null, .null, .null, .null, .null, .int (iI (0)), .int (iI (0)), .null, .null])) := by rw [eh_20]; exact (f_up_n ne_a_q_19).trans fh_18_a
  have fh_20_q_1 : h_20 q_1 = some (iar (g.2.1 0) 8 (fun _ => 0)) := by rw [eh_20]; exact (f_up_n ne_q_1_q_19).trans fh_18_q_1
  have fh_20_q_4 : h_20 q_4 = some (iar (g.2.1 0) 8 (fun _ => 0)) := by rw [eh_20]; exact (f_up_n ne_q_4_q_19).trans fh_18_q_4
  have fh_20_q_7 : h_20 q_7 = some (iar (g.2.1 0) 8 (fun _ => 0)) := by rw [eh_20]; exact (f_up_n ne_q_7_q_19).trans fh_18_q_7
  have fh_20_q_10 : h_20 q_10 = some (iar (g.2.1 0) 8 (fun _ => 0)) := by rw [eh_20]; exact (f_up_n ne_q_10_q_19).trans fh_18_q_10
  have fh_20_q_13 : h_20 q_13 = some (iar (g.2.1 0) 4 (fun _ => 0)) := by rw [eh_20]; exact (f_up_n ne_q_13_q_19).trans fh_18_q_13
  have fh_20_q_16 : h_20 q_16 = some (iar (g.2.1 0) 4 (fun _ => 0)) := by rw [eh_20]; exact (f_up_n ne_q_16_q_19).trans fh_18_q_16
  have fh_20_q_19 : h_20 q_19 = some (iar (g.2.1 0) 2 (fun _ => 0)) := by rw [eh_20]; exact f_up_s _ _ _
  have frh_20 : ∀ z x, z ≠ a → h z = some x → h_20 z = some x := fun z x hz hx => by rw [eh_20, f_up_n (fun y => by have h_ := frh_18 z x hz hx; rw [y, nq_19] at h_; cases h_)]; exact frh_18 z x hz hx
  have nb_q_19 : h q_19 = none := nb_of frh_18 (Ne.symm ne_a_q_19) nq_19
  have ndh_20 := al_cons (h' := h_20) ndh_18.1 ndh_18.2 nq_19 (by rw [fh_20_q_19]; exact fun z => by cases z) (fun x _ hx => by rw [eh_20]; exact f_up_some hx)
  obtain ⟨h_21, eh_21⟩ : ∃ z_, z_ = f_up h_20 a (.inr (8, [.int (iI (0)), .ref q_1, .ref q_4, .ref q_7, .ref q_10, .int (iI (0)), .ref q_13, .ref q_16, .ref q_19, .null, .null, .null, .null, .null, .null, .null, .null, .int (iI (0)), .int (iI (0)), .null, .null])) := ⟨_, rfl⟩
  have fh_21_q_1 : h_21 q_1 = some (iar (g.2.1 0) 8 (fun _ => 0)) := by rw [eh_21]; exact (f_up_n (Ne.symm ne_a_q_1)).trans fh_20_q_1
  have fh_21_q_4 : h_21 q_4 = some (iar (g.2.1 0) 8 (fun _ => 0)) := by rw [eh_21]; exact (f_up_n (Ne.symm ne_a_q_4)).trans fh_20_q_4
  have fh_21_q_7 : h_21 q_7 = some (iar (g.2.1 0) 8 (fun _ => 0)) := by rw [eh_21]; exact (f_up_n (Ne.symm ne_a_q_7)).trans fh_20_q_7
  have fh_21_q_10 : h_21 q_10 = some (iar (g.2.1 0) 8 (fun _ => 0)) := by rw [eh_21]; exact (f_up_n (Ne.symm ne_a_q_10)).trans fh_20_q_10
  have fh_21_q_13 : h_21 q_13 = some (iar (g.2.1 0) 4 (fun _ => 0)) := by rw [eh_21]; exact (f_up_n (Ne.symm ne_a_q_13)).trans fh_20_q_13
  have fh_21_q_16 : h_21 q_16 = some (iar (g.2.1 0) 4 (fun _ => 0)) := by rw [eh_21]; exact (f_up_n (Ne.symm ne_a_q_16)).trans fh_20_q_16
  have fh_21_q_19 : h_21 q_19 = some (iar (g.2.1 0) 2 (fun _ => 0)) := by rw [eh_21]; exact (f_up_n (Ne.symm ne_a_q_19)).trans fh_20_q_19
  have fh_21_a : h_21 a = some (.inr (8, [.int (iI (0)), .ref q_1, .ref q_4, .ref q_7, .ref q_10, .int (iI (0)), .ref q_13, .ref q_16, .ref q_19, .null, .null, .null, .null, .null, .null, .null, .null, .int (iI (0)), .int (iI (0)), .null, .null])) := by rw [eh_21]; exact f_up_s _ _ _
  have frh_21 : ∀ z x, z ≠ a → h z = some x → h_21 z = some x := fun z x hz hx => by rw [eh_21, f_up_n hz]; exact frh_20 z x hz hx
  have ndh_21 : ([q_19, q_16, q_13, q_10, q_7, q_4, q_1, a] : List Nat).Nodup ∧ ∀ x ∈ ([q_19, q_16, q_13, q_10, q_7, q_4, q_1, a] : List Nat), h_21 x ≠ none := ⟨ndh_20.1, fun x hx => by rw [eh_21]; exact f_up_some (ndh_20.2 x hx)⟩
  refine v_putF F (pc := 54) fp_X5_28_8 dX5_init_54 fh_20_a hinit rfl rfl (Nat.le_of_ble_eq_true rfl) (h' := h_21) eh_21.symm ?_
  refine v_aload_n F (pc := 57) dX5_init_57 rfl ?_
  refine v_iconst F (pc := 58) dX5_init_58 ?_
  refine v_newz F (pc := 59) (n := 2) dX5_init_59 (by decide) (Nat.le_of_ble_eq_true rfl) (Nat.le_of_ble_eq_true rfl) (fun q_22 nq_22 => ?_)
  have ne_a_q_22 : a ≠ q_22 := fun z_ => by have h_ := fh_21_a; rw [z_, nq_22] at h_; cases h_
  have ne_q_1_q_22 : q_1 ≠ q_22 := fun z_ => by have h_ := fh_21_q_1; rw [z_, nq_22] at h_; cases h_
  have ne_q_4_q_22 : q_4 ≠ q_22 := fun z_ => by have h_ := fh_21_q_4; rw [z_, nq_22] at h_; cases h_
  have ne_q_7_q_22 : q_7 ≠ q_22 := fun z_ => by have h_ := fh_21_q_7; rw [z_, nq_22] at h_; cases h_
  have ne_q_10_q_22 : q_10 ≠ q_22 := fun z_ => by have h_ := fh_21_q_10; rw [z_, nq_22] at h_; cases h_
  have ne_q_13_q_22 : q_13 ≠ q_22 := fun z_ => by have h_ := fh_21_q_13; rw [z_, nq_22] at h_; cases h_
  have ne_q_16_q_22 : q_16 ≠ q_22 := fun z_ => by have h_ := fh_21_q_16; rw [z_, nq_22] at h_; cases h_
  have ne_q_19_q_22 : q_19 ≠ q_22 := fun z_ => by have h_ := fh_21_q_19; rw [z_, nq_22] at h_; cases h_
  obtain ⟨h_23, eh_23⟩ : ∃ z_, z_ = f_up h_21 q_22 (iar (g.2.1 1) 2 (fun _ => 0)) := ⟨_, rfl⟩
  rw [← eh_23]
  have fh_23_a : h_23 a = some (.inr (8, [.int (iI (0)), .ref q_1, .ref q_4, .ref q_7, .ref q_10, .int (iI (0)), .ref q_13, .ref q_16, .ref q_19, .null, .null, .null, .null, .null, .null, .null, .null, .int (iI (0)), .int (iI (0)), .null, .null])) := by rw [eh_23]; exact (f_up_n ne_a_q_22).trans fh_21_a
  have fh_23_q_1 : h_23 q_1 = some (iar (g.2.1 0) 8 (fun _ => 0)) := by rw [eh_23]; exact (f_up_n ne_q_1_q_22).trans fh_21_q_1
  have fh_23_q_4 : h_23 q_4 = some (iar (g.2.1 0) 8 (fun _ => 0)) := by rw [eh_23]; exact (f_up_n ne_q_4_q_22).trans fh_21_q_4
  have fh_23_q_7 : h_23 q_7 = some (iar (g.2.1 0) 8 (fun _ => 0)) := by rw [eh_23]; exact (f_up_n ne_q_7_q_22).trans fh_21_q_7
  have fh_23_q_10 : h_23 q_10 = some (iar (g.2.1 0) 8 (fun _ => 0)) := by rw [eh_23]; exact (f_up_n ne_q_10_q_22).trans fh_21_q_10
  have fh_23_q_13 : h_23 q_13 = some (iar (g.2.1 0) 4 (fun _ => 0)) := by rw [eh_23]; exact (f_up_n ne_q_13_q_22).trans fh_21_q_13
  have fh_23_q_16 : h_23 q_16 = some (iar (g.2.1 0) 4 (fun _ => 0)) := by rw [eh_23]; exact (f_up_n ne_q_16_q_22).trans fh_21_q_16
  have fh_23_q_19 : h_23 q_19 = some (iar (g.2.1 0) 2 (fun _ => 0)) := by rw [eh_23]; exact (f_up_n ne_q_19_q_22).trans fh_21_q_19
  have fh_23_q_22 : h_23 q_22 = some (iar (g.2.1 1) 2 (fun _ => 0)) := by rw [eh_23]; exact f_up_s _ _ _
  have frh_23 : ∀ z x, z ≠ a → h z = some x → h_23 z = some x := fun z x hz hx => by rw [eh_23, f_up_n (fun y => by have h_ := frh_21 z x hz hx; rw [y, nq_22] at h_; cases h_)]; exact frh_21 z x hz hx
  have nb_q_22 : h q_22 = none := nb_of frh_21 (Ne.symm ne_a_q_22) nq_22
  have ndh_23 := al_cons (h' := h_23) ndh_21.1 ndh_21.2 nq_22 (by rw [fh_23_q_22]; exact fun z => by cases z) (fun x _ hx => by rw [eh_23]; exact f_up_some hx)
  obtain ⟨h_24, eh_24⟩ : ∃ z_, z_ = f_up h_23 a (.inr (8, [.int (iI (0)), .ref q_1, .ref q_4, .ref q_7, .ref q_10, .int (iI (0)), .ref q_13, .ref q_16, .ref q_19, .ref q_22, .null, .null, .null, .null, .null, .null, .null, .int (iI (0)), .int (iI (0)), .null, .null])) := ⟨_, rfl⟩
  have fh_24_q_1 : h_24 q_1 = some (iar (g.2.1 0) 8 (fun _ => 0)) := by rw [eh_24]; exact (f_up_n (Ne.symm ne_a_q_1)).trans fh_23_q_1
  have fh_24_q_4 : h_24 q_4 = some (iar (g.2.1 0) 8 (fun _ => 0)) := by rw [eh_24]; exact (f_up_n (Ne.symm ne_a_q_4)).trans fh_23_q_4
  have fh_24_q_7 : h_24 q_7 = some (iar (g.2.1 0) 8 (fun _ => 0)) := by rw [eh_24]; exact (f_up_n (Ne.symm ne_a_q_7)).trans fh_23_q_7
  have fh_24_q_10 : h_24 q_10 = some (iar (g.2.1 0) 8 (fun _ => 0)) := by rw [eh_24]; exact (f_up_n (Ne.symm ne_a_q_10)).trans fh_23_q_10
  have fh_24_q_13 : h_24 q_13 = some (iar (g.2.1 0) 4 (fun _ => 0)) := by rw [eh_24]; exact (f_up_n (Ne.symm ne_a_q_13)).trans fh_23_q_13
  have fh_24_q_16 : h_24 q_16 = some (iar (g.2.1 0) 4 (fun _ => 0)) := by rw [eh_24]; exact (f_up_n (Ne.symm ne_a_q_16)).trans fh_23_q_16
  have fh_24_q_19 : h_24 q_19 = some (iar (g.2.1 0) 2 (fun _ => 0)) := by rw [eh_24]; exact (f_up_n (Ne.symm ne_a_q_19)).trans fh_23_q_19
  have fh_24_q_22 : h_24 q_22 = some (iar (g.2.1 1) 2 (fun _ => 0)) := by rw [eh_24]; exact (f_up_n (Ne.symm ne_a_q_22)).trans fh_23_q_22
  have fh_24_a : h_24 a = some (.inr (8, [.int (iI (0)), .ref q_1, .ref q_4, .ref q_7, .ref q_10, .int (iI (0)), .ref q_13, .ref q_16, .ref q_19, .ref q_22, .null, .null, .null, .null, .null, .null, .null, .int (iI (0)), .int (iI (0)), .null, .null])) := by rw [eh_24]; exact f_up_s _ _ _
  have frh_24 : ∀ z x, z ≠ a → h z = some x → h_24 z = some x := fun z x hz hx => by rw [eh_24, f_up_n hz]; exact frh_23 z x hz hx
  have ndh_24 : ([q_22, q_19, q_16, q_13, q_10, q_7, q_4, q_1, a] : List Nat).Nodup ∧ ∀ x ∈ ([q_22, q_19, q_16, q_13, q_10, q_7, q_4, q_1, a] : List Nat), h_24 x ≠ none := ⟨ndh_23.1, fun x hx => by rw [eh_24]; exact f_up_some (ndh_23.2 x hx)⟩
  refine v_putF F (pc := 61) fp_X5_31_8 dX5_init_61 fh_23_a hinit rfl rfl (Nat.le_of_ble_eq_true rfl) (h' := h_24) eh_24.symm ?_
  refine v_aload_n F (pc := 64) dX5_init_64 rfl ?_
  refine v_bipush F (pc := 65) dX5_init_65 (by decide) ?_
  refine v_newi F (pc := 67) (n := 60) dX5_init_67 (by decide) (Nat.le_of_ble_eq_true rfl) (Nat.le_of_ble_eq_true rfl) (fun q_25 nq_25 => ?_)
  have ne_a_q_25 : a ≠ q_25 := fun z_ => by have h_ := fh_24_a; rw [z_, nq_25] at h_; cases h_
  have ne_q_1_q_25 : q_1 ≠ q_25 := fun z_ => by have h_ := fh_24_q_1; rw [z_, nq_25] at h_; cases h_
  have ne_q_4_q_25 : q_4 ≠ q_25 := fun z_ => by have h_ := fh_24_q_4; rw [z_, nq_25] at h_; cases h_
  have ne_q_7_q_25 : q_7 ≠ q_25 := fun z_ => by have h_ := fh_24_q_7; rw [z_, nq_25] at h_; cases h_
  have ne_q_10_q_25 : q_10 ≠ q_25 := fun z_ => by have h_ := fh_24_q_10; rw [z_, nq_25] at h_; cases h_
  have ne_q_13_q_25 : q_13 ≠ q_25 := fun z_ => by have h_ := fh_24_q_13; rw [z_, nq_25] at h_; cases h_
  have ne_q_16_q_25 : q_16 ≠ q_25 := fun z_ => by have h_ := fh_24_q_16; rw [z_, nq_25] at h_; cases h_
  have ne_q_19_q_25 : q_19 ≠ q_25 := fun z_ => by have h_ := fh_24_q_19; rw [z_, nq_25] at h_; cases h_
  have ne_q_22_q_25 : q_22 ≠ q_25 := fun z_ => by have h_ := fh_24_q_22; rw [z_, nq_25] at h_; cases h_
  obtain ⟨h_26, eh_26⟩ : ∃ z_, z_ = f_up h_24 q_25 (iar (g.2.1 0) 60 (fun _ => 0)) := ⟨_, rfl⟩
  rw [← eh_26]
  have fh_26_a : h_26 a = some (.inr (8, [.int (iI (0)), .ref q_1, .ref q_4, .ref q_7, .ref q_10, .int (iI (0)), .ref q_13, .ref q_16, .ref q_19, .ref q_22, .null, .null, .null, .null, .null, .null, .null, .int (iI (0)), .int (iI (0)), .null, .null])) := by rw [eh_26]; exact (f_up_n ne_a_q_25).trans fh_24_a
  have fh_26_q_1 : h_26 q_1 = some (iar (g.2.1 0) 8 (fun _ => 0)) := by rw [eh_26]; exact (f_up_n ne_q_1_q_25).trans fh_24_q_1
  have fh_26_q_4 : h_26 q_4 = some (iar (g.2.1 0) 8 (fun _ => 0)) := by rw [eh_26]; exact (f_up_n ne_q_4_q_25).trans fh_24_q_4
  have fh_26_q_7 : h_26 q_7 = some (iar (g.2.1 0) 8 (fun _ => 0)) := by rw [eh_26]; exact (f_up_n ne_q_7_q_25).trans fh_24_q_7
  have fh_26_q_10 : h_26 q_10 = some (iar (g.2.1 0) 8 (fun _ => 0)) := by rw [eh_26]; exact (f_up_n ne_q_10_q_25).trans fh_24_q_10
  have fh_26_q_13 : h_26 q_13 = some (iar (g.2.1 0) 4 (fun _ => 0)) := by rw [eh_26]; exact (f_up_n ne_q_13_q_25).trans fh_24_q_13
  have fh_26_q_16 : h_26 q_16 = some (iar (g.2.1 0) 4 (fun _ => 0)) := by rw [eh_26]; exact (f_up_n ne_q_16_q_25).trans fh_24_q_16
  have fh_26_q_19 : h_26 q_19 = some (iar (g.2.1 0) 2 (fun _ => 0)) := by rw [eh_26]; exact (f_up_n ne_q_19_q_25).trans fh_24_q_19
  have fh_26_q_22 : h_26 q_22 = some (iar (g.2.1 1) 2 (fun _ => 0)) := by rw [eh_26]; exact (f_up_n ne_q_22_q_25).trans fh_24_q_22
  have fh_26_q_25 : h_26 q_25 = some (iar (g.2.1 0) 60 (fun _ => 0)) := by rw [eh_26]; exact f_up_s _ _ _
  have frh_26 : ∀ z x, z ≠ a → h z = some x → h_26 z = some x := fun z x hz hx => by rw [eh_26, f_up_n (fun y => by have h_ := frh_24 z x hz hx; rw [y, nq_25] at h_; cases h_)]; exact frh_24 z x hz hx
  have nb_q_25 : h q_25 = none := nb_of frh_24 (Ne.symm ne_a_q_25) nq_25
  have ndh_26 := al_cons (h' := h_26) ndh_24.1 ndh_24.2 nq_25 (by rw [fh_26_q_25]; exact fun z => by cases z) (fun x _ hx => by rw [eh_26]; exact f_up_some hx)
  obtain ⟨h_27, eh_27⟩ : ∃ z_, z_ = f_up h_26 a (.inr (8, [.int (iI (0)), .ref q_1, .ref q_4, .ref q_7, .ref q_10, .int (iI (0)), .ref q_13, .ref q_16, .ref q_19, .ref q_22, .ref q_25, .null, .null, .null, .null, .null, .null, .int (iI (0)), .int (iI (0)), .null, .null])) := ⟨_, rfl⟩
  have fh_27_q_1 : h_27 q_1 = some (iar (g.2.1 0) 8 (fun _ => 0)) := by rw [eh_27]; exact (f_up_n (Ne.symm ne_a_q_1)).trans fh_26_q_1
  have fh_27_q_4 : h_27 q_4 = some (iar (g.2.1 0) 8 (fun _ => 0)) := by rw [eh_27]; exact (f_up_n (Ne.symm ne_a_q_4)).trans fh_26_q_4
  have fh_27_q_7 : h_27 q_7 = some (iar (g.2.1 0) 8 (fun _ => 0)) := by rw [eh_27]; exact (f_up_n (Ne.symm ne_a_q_7)).trans fh_26_q_7
  have fh_27_q_10 : h_27 q_10 = some (iar (g.2.1 0) 8 (fun _ => 0)) := by rw [eh_27]; exact (f_up_n (Ne.symm ne_a_q_10)).trans fh_26_q_10
  have fh_27_q_13 : h_27 q_13 = some (iar (g.2.1 0) 4 (fun _ => 0)) := by rw [eh_27]; exact (f_up_n (Ne.symm ne_a_q_13)).trans fh_26_q_13
  have fh_27_q_16 : h_27 q_16 = some (iar (g.2.1 0) 4 (fun _ => 0)) := by rw [eh_27]; exact (f_up_n (Ne.symm ne_a_q_16)).trans fh_26_q_16
  have fh_27_q_19 : h_27 q_19 = some (iar (g.2.1 0) 2 (fun _ => 0)) := by rw [eh_27]; exact (f_up_n (Ne.symm ne_a_q_19)).trans fh_26_q_19
  have fh_27_q_22 : h_27 q_22 = some (iar (g.2.1 1) 2 (fun _ => 0)) := by rw [eh_27]; exact (f_up_n (Ne.symm ne_a_q_22)).trans fh_26_q_22
  have fh_27_q_25 : h_27 q_25 = some (iar (g.2.1 0) 60 (fun _ => 0)) := by rw [eh_27]; exact (f_up_n (Ne.symm ne_a_q_25)).trans fh_26_q_25
  have fh_27_a : h_27 a = some (.inr (8, [.int (iI (0)), .ref q_1, .ref q_4, .ref q_7, .ref q_10, .int (iI (0)), .ref q_13, .ref q_16, .ref q_19, .ref q_22, .ref q_25, .null, .null, .null, .null, .null, .null, .int (iI (0)), .int (iI (0)), .null, .null])) := by rw [eh_27]; exact f_up_s _ _ _
  have frh_27 : ∀ z x, z ≠ a → h z = some x → h_27 z = some x := fun z x hz hx => by rw [eh_27, f_up_n hz]; exact frh_26 z x hz hx
  have ndh_27 : ([q_25, q_22, q_19, q_16, q_13, q_10, q_7, q_4, q_1, a] : List Nat).Nodup ∧ ∀ x ∈ ([q_25, q_22, q_19, q_16, q_13, q_10, q_7, q_4, q_1, a] : List Nat), h_27 x ≠ none := ⟨ndh_26.1, fun x hx => by rw [eh_27]; exact f_up_some (ndh_26.2 x hx)⟩
  refine v_putF F (pc := 69) fp_X5_35_8 dX5_init_69 fh_26_a hinit rfl rfl (Nat.le_of_ble_eq_true rfl) (h' := h_27) eh_27.symm ?_
  refine v_aload_n F (pc := 72) dX5_init_72 rfl ?_
  refine v_bipush F (pc := 73) dX5_init_73 (by decide) ?_
  refine v_newi F (pc := 75) (n := 60) dX5_init_75 (by decide) (Nat.le_of_ble_eq_true rfl) (Nat.le_of_ble_eq_true rfl) (fun q_28 nq_28 => ?_)
  have ne_a_q_28 : a ≠ q_28 := fun z_ => by have h_ := fh_27_a; rw [z_, nq_28] at h_; cases h_
  have ne_q_1_q_28 : q_1 ≠ q_28 := fun z_ => by have h_ := fh_27_q_1; rw [z_, nq_28] at h_; cases h_
  have ne_q_4_q_28 : q_4 ≠ q_28 := fun z_ => by have h_ := fh_27_q_4; rw [z_, nq_28] at h_; cases h_
  have ne_q_7_q_28 : q_7 ≠ q_28 := fun z_ => by have h_ := fh_27_q_7; rw [z_, nq_28] at h_; cases h_
  have ne_q_10_q_28 : q_10 ≠ q_28 := fun z_ => by have h_ := fh_27_q_10; rw [z_, nq_28] at h_; cases h_
  have ne_q_13_q_28 : q_13 ≠ q_28 := fun z_ => by have h_ := fh_27_q_13; rw [z_, nq_28] at h_; cases h_
  have ne_q_16_q_28 : q_16 ≠ q_28 := fun z_ => by have h_ := fh_27_q_16; rw [z_, nq_28] at h_; cases h_
  have ne_q_19_q_28 : q_19 ≠ q_28 := fun z_ => by have h_ := fh_27_q_19; rw [z_, nq_28] at h_; cases h_
  have ne_q_22_q_28 : q_22 ≠ q_28 := fun z_ => by have h_ := fh_27_q_22; rw [z_, nq_28] at h_; cases h_
  have ne_q_25_q_28 : q_25 ≠ q_28 := fun z_ => by have h_ := fh_27_q_25; rw [z_, nq_28] at h_; cases h_
  obtain ⟨h_29, eh_29⟩ : ∃ z_, z_ = f_up h_27 q_28 (iar (g.2.1 0) 60 (fun _ => 0)) := ⟨_, rfl⟩
  rw [← eh_29]
  have fh_29_a : h_29 a = some (.inr (8, [.int (iI (0)), .ref q_1, .ref q_4, .ref q_7, .ref q_10, .int (iI (0)), .ref q_13, .ref q_16, .ref q_19, .ref q_22, .ref q_25, .null, .null, .null, .null, .null, .null, .int (iI (0)), .int (iI (0)), .null, .null])) := by rw [eh_29]; exact (f_up_n ne_a_q_28).trans fh_27_a
  have fh_29_q_1 : h_29 q_1 = some (iar (g.2.1 0) 8 (fun _ => 0)) := by rw [eh_29]; exact (f_up_n ne_q_1_q_28).trans fh_27_q_1
  have fh_29_q_4 : h_29 q_4 = some (iar (g.2.1 0) 8 (fun _ => 0)) := by rw [eh_29]; exact (f_up_n ne_q_4_q_28).trans fh_27_q_4
  have fh_29_q_7 : h_29 q_7 = some (iar (g.2.1 0) 8 (fun _ => 0)) := by rw [eh_29]; exact (f_up_n ne_q_7_q_28).trans fh_27_q_7
  have fh_29_q_10 : h_29 q_10 = some (iar (g.2.1 0) 8 (fun _ => 0)) := by rw [eh_29]; exact (f_up_n ne_q_10_q_28).trans fh_27_q_10
  have fh_29_q_13 : h_29 q_13 = some (iar (g.2.1 0) 4 (fun _ => 0)) := by rw [eh_29]; exact (f_up_n ne_q_13_q_28).trans fh_27_q_13
  have fh_29_q_16 : h_29 q_16 = some (iar (g.2.1 0) 4 (fun _ => 0)) := by rw [eh_29]; exact (f_up_n ne_q_16_q_28).trans fh_27_q_16
  have fh_29_q_19 : h_29 q_19 = some (iar (g.2.1 0) 2 (fun _ => 0)) := by rw [eh_29]; exact (f_up_n ne_q_19_q_28).trans fh_27_q_19
  have fh_29_q_22 : h_29 q_22 = some (iar (g.2.1 1) 2 (fun _ => 0)) := by rw [eh_29]; exact (f_up_n ne_q_22_q_28).trans fh_27_q_22
  have fh_29_q_25 : h_29 q_25 = some (iar (g.2.1 0) 60 (fun _ => 0)) := by rw [eh_29]; exact (f_up_n ne_q_25_q_28).trans fh_27_q_25
  have fh_29_q_28 : h_29 q_28 = some (iar (g.2.1 0) 60 (fun _ => 0)) := by rw [eh_29]; exact f_up_s _ _ _
  have frh_29 : ∀ z x, z ≠ a → h z = some x → h_29 z = some x := fun z x hz hx => by rw [eh_29, f_up_n (fun y => by have h_ := frh_27 z x hz hx; rw [y, nq_28] at h_; cases h_)]; exact frh_27 z x hz hx
  have nb_q_28 : h q_28 = none := nb_of frh_27 (Ne.symm ne_a_q_28) nq_28
  have ndh_29 := al_cons (h' := h_29) ndh_27.1 ndh_27.2 nq_28 (by rw [fh_29_q_28]; exact fun z => by cases z) (fun x _ hx => by rw [eh_29]; exact f_up_some hx)
  obtain ⟨h_30, eh_30⟩ : ∃ z_, z_ = f_up h_29 a (.inr (8, [.int (iI (0)), .ref q_1, .ref q_4, .ref q_7, .ref q_10, .int (iI (0)), .ref q_13, .ref q_16, .ref q_19, .ref q_22, .ref q_25, .ref q_28, .null, .null, .null, .null, .null, .int (iI (0)), .int (iI (0)), .null, .null])) := ⟨_, rfl⟩
  have fh_30_q_1 : h_30 q_1 = some (iar (g.2.1 0) 8 (fun _ => 0)) := by rw [eh_30]; exact (f_up_n (Ne.symm ne_a_q_1)).trans fh_29_q_1
  have fh_30_q_4 : h_30 q_4 = some (iar (g.2.1 0) 8 (fun _ => 0)) := by rw [eh_30]; exact (f_up_n (Ne.symm ne_a_q_4)).trans fh_29_q_4
  have fh_30_q_7 : h_30 q_7 = some (iar (g.2.1 0) 8 (fun _ => 0)) := by rw [eh_30]; exact (f_up_n (Ne.symm ne_a_q_7)).trans fh_29_q_7
  have fh_30_q_10 : h_30 q_10 = some (iar (g.2.1 0) 8 (fun _ => 0)) := by rw [eh_30]; exact (f_up_n (Ne.symm ne_a_q_10)).trans fh_29_q_10
  have fh_30_q_13 : h_30 q_13 = some (iar (g.2.1 0) 4 (fun _ => 0)) := by rw [eh_30]; exact (f_up_n (Ne.symm ne_a_q_13)).trans fh_29_q_13
  have fh_30_q_16 : h_30 q_16 = some (iar (g.2.1 0) 4 (fun _ => 0)) := by rw [eh_30]; exact (f_up_n (Ne.symm ne_a_q_16)).trans fh_29_q_16
  have fh_30_q_19 : h_30 q_19 = some (iar (g.2.1 0) 2 (fun _ => 0)) := by rw [eh_30]; exact (f_up_n (Ne.symm ne_a_q_19)).trans fh_29_q_19
  have fh_30_q_22 : h_30 q_22 = some (iar (g.2.1 1) 2 (fun _ => 0)) := by rw [eh_30]; exact (f_up_n (Ne.symm ne_a_q_22)).trans fh_29_q_22
  have fh_30_q_25 : h_30 q_25 = some (iar (g.2.1 0) 60 (fun _ => 0)) := by rw [eh_30]; exact (f_up_n (Ne.symm ne_a_q_25)).trans fh_29_q_25
  have fh_30_q_28 : h_30 q_28 = some (iar (g.2.1 0) 60 (fun _ => 0)) := by rw [eh_30]; exact (f_up_n (Ne.symm ne_a_q_28)).trans fh_29_q_28
  have fh_30_a : h_30 a = some (.inr (8, [.int (iI (0)), .ref q_1, .ref q_4, .ref q_7, .ref q_10, .int (iI (0)), .ref q_13, .ref q_16, .ref q_19, .ref q_22, .ref q_25, .ref q_28, .null, .null, .null, .null, .null, .int (iI (0)), .int (iI (0)), .null, .null])) := by rw [eh_30]; exact f_up_s _ _ _
  have frh_30 : ∀ z x, z ≠ a → h z = some x → h_30 z = some x := fun z x hz hx => by rw [eh_30, f_up_n hz]; exact frh_29 z x hz hx
  have ndh_30 : ([q_28, q_25, q_22, q_19, q_16, q_13, q_10, q_7, q_4, q_1, a] : List Nat).Nodup ∧ ∀ x ∈ ([q_28, q_25, q_22, q_19, q_16, q_13, q_10, q_7, q_4, q_1, a] : List Nat), h_30 x ≠ none := ⟨ndh_29.1, fun x hx => by rw [eh_30]; exact f_up_some (ndh_29.2 x hx)⟩
  refine v_putF F (pc := 77) fp_X5_38_8 dX5_init_77 fh_29_a hinit rfl rfl (Nat.le_of_ble_eq_true rfl) (h' := h_30) eh_30.symm ?_
  refine v_aload_n F (pc := 80) dX5_init_80 rfl ?_
  refine v_bipush F (pc := 81) dX5_init_81 (by decide) ?_
  refine v_newi F (pc := 83) (n := 60) dX5_init_83 (by decide) (Nat.le_of_ble_eq_true rfl) (Nat.le_of_ble_eq_true rfl) (fun q_31 nq_31 => ?_)
  have ne_a_q_31 : a ≠ q_31 := fun z_ => by have h_ := fh_30_a; rw [z_, nq_31] at h_; cases h_
  have ne_q_1_q_31 : q_1 ≠ q_31 := fun z_ => by have h_ := fh_30_q_1; rw [z_, nq_31] at h_; cases h_
  have ne_q_4_q_31 : q_4 ≠ q_31 := fun z_ => by have h_ := fh_30_q_4; rw [z_, nq_31] at h_; cases h_
  have ne_q_7_q_31 : q_7 ≠ q_31 := fun z_ => by have h_ := fh_30_q_7; rw [z_, nq_31] at h_; cases h_
  have ne_q_10_q_31 : q_10 ≠ q_31 := fun z_ => by have h_ := fh_30_q_10; rw [z_, nq_31] at h_; cases h_
  have ne_q_13_q_31 : q_13 ≠ q_31 := fun z_ => by have h_ := fh_30_q_13; rw [z_, nq_31] at h_; cases h_
  have ne_q_16_q_31 : q_16 ≠ q_31 := fun z_ => by have h_ := fh_30_q_16; rw [z_, nq_31] at h_; cases h_
  have ne_q_19_q_31 : q_19 ≠ q_31 := fun z_ => by have h_ := fh_30_q_19; rw [z_, nq_31] at h_; cases h_
  have ne_q_22_q_31 : q_22 ≠ q_31 := fun z_ => by have h_ := fh_30_q_22; rw [z_, nq_31] at h_; cases h_
  have ne_q_25_q_31 : q_25 ≠ q_31 := fun z_ => by have h_ := fh_30_q_25; rw [z_, nq_31] at h_; cases h_
  have ne_q_28_q_31 : q_28 ≠ q_31 := fun z_ => by have h_ := fh_30_q_28; rw [z_, nq_31] at h_; cases h_
  obtain ⟨h_32, eh_32⟩ : ∃ z_, z_ = f_up h_30 q_31 (iar (g.2.1 0) 60 (fun _ => 0)) := ⟨_, rfl⟩
  rw [← eh_32]
  have fh_32_a : h_32 a = some (.inr (8, [.int (iI (0)), .ref q_1, .ref q_4, .ref q_7, .ref q_10, .int (iI (0)), .ref q_13, .ref q_16, .ref q_19, .ref q_22, .ref q_25, .ref q_28, .null, .null, .null, .null, .null, .int (iI (0)), .int (iI (0)), .null, .null])) := by rw [eh_32]; exact (f_up_n ne_a_q_31).trans fh_30_a
  have fh_32_q_1 : h_32 q_1 = some (iar (g.2.1 0) 8 (fun _ => 0)) := by rw [eh_32]; exact (f_up_n ne_q_1_q_31).trans fh_30_q_1
  have fh_32_q_4 : h_32 q_4 = some (iar (g.2.1 0) 8 (fun _ => 0)) := by rw [eh_32]; exact (f_up_n ne_q_4_q_31).trans fh_30_q_4
  have fh_32_q_7 : h_32 q_7 = some (iar (g.2.1 0) 8 (fun _ => 0)) := by rw [eh_32]; exact (f_up_n ne_q_7_q_31).trans fh_30_q_7
  have fh_32_q_10 : h_32 q_10 = some (iar (g.2.1 0) 8 (fun _ => 0)) := by rw [eh_32]; exact (f_up_n ne_q_10_q_31).trans fh_30_q_10
  have fh_32_q_13 : h_32 q_13 = some (iar (g.2.1 0) 4 (fun _ => 0)) := by rw [eh_32]; exact (f_up_n ne_q_13_q_31).trans fh_30_q_13
  have fh_32_q_16 : h_32 q_16 = some (iar (g.2.1 0) 4 (fun _ => 0)) := by rw [eh_32]; exact (f_up_n ne_q_16_q_31).trans fh_30_q_16
  have fh_32_q_19 : h_32 q_19 = some (iar (g.2.1 0) 2 (fun _ => 0)) := by rw [eh_32]; exact (f_up_n ne_q_19_q_31).trans fh_30_q_19
  have fh_32_q_22 : h_32 q_22 = some (iar (g.2.1 1) 2 (fun _ => 0)) := by rw [eh_32]; exact (f_up_n ne_q_22_q_31).trans fh_30_q_22
  have fh_32_q_25 : h_32 q_25 = some (iar (g.2.1 0) 60 (fun _ => 0)) := by rw [eh_32]; exact (f_up_n ne_q_25_q_31).trans fh_30_q_25
  have fh_32_q_28 : h_32 q_28 = some (iar (g.2.1 0) 60 (fun _ => 0)) := by rw [eh_32]; exact (f_up_n ne_q_28_q_31).trans fh_30_q_28
  have fh_32_q_31 : h_32 q_31 = some (iar (g.2.1 0) 60 (fun _ => 0)) := by rw [eh_32]; exact f_up_s _ _ _
  have frh_32 : ∀ z x, z ≠ a → h z = some x → h_32 z = some x := fun z x hz hx => by rw [eh_32, f_up_n (fun y => by have h_ := frh_30 z x hz hx; rw [y, nq_31] at h_; cases h_)]; exact frh_30 z x hz hx
  have nb_q_31 : h q_31 = none := nb_of frh_30 (Ne.symm ne_a_q_31) nq_31
  have ndh_32 := al_cons (h' := h_32) ndh_30.1 ndh_30.2 nq_31 (by rw [fh_32_q_31]; exact fun z => by cases z) (fun x _ hx => by rw [eh_32]; exact f_up_some hx)
  obtain ⟨h_33, eh_33⟩ : ∃ z_, z_ = f_up h_32 a (.inr (8, [.int (iI (0)), .ref q_1, .ref q_4, .ref q_7, .ref q_10, .int (iI (0)), .ref q_13, .ref q_16, .ref q_19, .ref q_22, .ref q_25, .ref q_28, .ref q_31, .null, .null, .null, .null, .int (iI (0)), .int (iI (0)), .null, .null])) := ⟨_, rfl⟩
  have fh_33_q_1 : h_33 q_1 = some (iar (g.2.1 0) 8 (fun _ => 0)) := by rw [eh_33]; exact (f_up_n (Ne.symm ne_a_q_1)).trans fh_32_q_1
  have fh_33_q_4 : h_33 q_4 = some (iar (g.2.1 0) 8 (fun _ => 0)) := by rw [eh_33]; exact (f_up_n (Ne.symm ne_a_q_4)).trans fh_32_q_4
  have fh_33_q_7 : h_33 q_7 = some (iar (g.2.1 0) 8 (fun _ => 0)) := by rw [eh_33]; exact (f_up_n (Ne.symm ne_a_q_7)).trans fh_32_q_7
  have fh_33_q_10 : h_33 q_10 = some (iar (g.2.1 0) 8 (fun _ => 0)) := by rw [eh_33]; exact (f_up_n (Ne.symm ne_a_q_10)).trans fh_32_q_10
  have fh_33_q_13 : h_33 q_13 = some (iar (g.2.1 0) 4 (fun _ => 0)) := by rw [eh_33]; exact (f_up_n (Ne.symm ne_a_q_13)).trans fh_32_q_13
  have fh_33_q_16 : h_33 q_16 = some (iar (g.2.1 0) 4 (fun _ => 0)) := by rw [eh_33]; exact (f_up_n (Ne.symm ne_a_q_16)).trans fh_32_q_16
  have fh_33_q_19 : h_33 q_19 = some (iar (g.2.1 0) 2 (fun _ => 0)) := by rw [eh_33]; exact (f_up_n (Ne.symm ne_a_q_19)).trans fh_32_q_19
  have fh_33_q_22 : h_33 q_22 = some (iar (g.2.1 1) 2 (fun _ => 0)) := by rw [eh_33]; exact (f_up_n (Ne.symm ne_a_q_22)).trans fh_32_q_22
  have fh_33_q_25 : h_33 q_25 = some (iar (g.2.1 0) 60 (fun _ => 0)) := by rw [eh_33]; exact (f_up_n (Ne.symm ne_a_q_25)).trans fh_32_q_25
  have fh_33_q_28 : h_33 q_28 = some (iar (g.2.1 0) 60 (fun _ => 0)) := by rw [eh_33]; exact (f_up_n (Ne.symm ne_a_q_28)).trans fh_32_q_28
  have fh_33_q_31 : h_33 q_31 = some (iar (g.2.1 0) 60 (fun _ => 0)) := by rw [eh_33]; exact (f_up_n (Ne.symm ne_a_q_31)).trans fh_32_q_31
  have fh_33_a : h_33 a = some (.inr (8, [.int (iI (0)), .ref q_1, .ref q_4, .ref q_7, .ref q_10, .int (iI (0)), .ref q_13, .ref q_16, .ref q_19, .ref q_22, .ref q_25, .ref q_28, .ref q_31, .null, .null, .null, .null, .int (iI (0)), .int (iI (0)), .null, .null])) := by rw [eh_33]; exact f_up_s _ _ _
  have frh_33 : ∀ z x, z ≠ a → h z = some x → h_33 z = some x := fun z x hz hx => by rw [eh_33, f_up_n hz]; exact frh_32 z x hz hx
  have ndh_33 : ([q_31, q_28, q_25, q_22, q_19, q_16, q_13, q_10, q_7, q_4, q_1, a] : List Nat).Nodup ∧ ∀ x ∈ ([q_31, q_28, q_25, q_22, q_19, q_16, q_13, q_10, q_7, q_4, q_1, a] : List Nat), h_33 x ≠ none := ⟨ndh_32.1, fun x hx => by rw [eh_33]; exact f_up_some (ndh_32.2 x hx)⟩
  refine v_putF F (pc := 85) fp_X5_41_8 dX5_init_85 fh_32_a hinit rfl rfl (Nat.le_of_ble_eq_true rfl) (h' := h_33) eh_33.symm ?_
  refine v_aload_n F (pc := 88) dX5_init_88 rfl ?_
  refine v_bipush F (pc := 89) dX5_init_89 (by decide) ?_
  refine v_newi F (pc := 91) (n := 60) dX5_init_91 (by decide) (Nat.le_of_ble_eq_true rfl) (Nat.le_of_ble_eq_true rfl) (fun q_34 nq_34 => ?_)
  have ne_a_q_34 : a ≠ q_34 := fun z_ => by have h_ := fh_33_a; rw [z_, nq_34] at h_; cases h_
  have ne_q_1_q_34 : q_1 ≠ q_34 := fun z_ => by have h_ := fh_33_q_1; rw [z_, nq_34] at h_; cases h_
  have ne_q_4_q_34 : q_4 ≠ q_34 := fun z_ => by have h_ := fh_33_q_4; rw [z_, nq_34] at h_; cases h_
  have ne_q_7_q_34 : q_7 ≠ q_34 := fun z_ => by have h_ := fh_33_q_7; rw [z_, nq_34] at h_; cases h_
  have ne_q_10_q_34 : q_10 ≠ q_34 := fun z_ => by have h_ := fh_33_q_10; rw [z_, nq_34] at h_; cases h_
  have ne_q_13_q_34 : q_13 ≠ q_34 := fun z_ => by have h_ := fh_33_q_13; rw [z_, nq_34] at h_; cases h_
  have ne_q_16_q_34 : q_16 ≠ q_34 := fun z_ => by have h_ := fh_33_q_16; rw [z_, nq_34] at h_; cases h_
  have ne_q_19_q_34 : q_19 ≠ q_34 := fun z_ => by have h_ := fh_33_q_19; rw [z_, nq_34] at h_; cases h_
  have ne_q_22_q_34 : q_22 ≠ q_34 := fun z_ => by have h_ := fh_33_q_22; rw [z_, nq_34] at h_; cases h_
  have ne_q_25_q_34 : q_25 ≠ q_34 := fun z_ => by have h_ := fh_33_q_25; rw [z_, nq_34] at h_; cases h_
  have ne_q_28_q_34 : q_28 ≠ q_34 := fun z_ => by have h_ := fh_33_q_28; rw [z_, nq_34] at h_; cases h_
  have ne_q_31_q_34 : q_31 ≠ q_34 := fun z_ => by have h_ := fh_33_q_31; rw [z_, nq_34] at h_; cases h_
  obtain ⟨h_35, eh_35⟩ : ∃ z_, z_ = f_up h_33 q_34 (iar (g.2.1 0) 60 (fun _ => 0)) := ⟨_, rfl⟩
  rw [← eh_35]
  have fh_35_a : h_35 a = some (.inr (8, [.int (iI (0)), .ref q_1, .ref q_4, .ref q_7, .ref q_10, .int (iI (0)), .ref q_13, .ref q_16, .ref q_19, .ref q_22, .ref q_25, .ref q_28, .ref q_31, .null, .null, .null, .null, .int (iI (0)), .int (iI (0)), .null, .null])) := by rw [eh_35]; exact (f_up_n ne_a_q_34).trans fh_33_a
  have fh_35_q_1 : h_35 q_1 = some (iar (g.2.1 0) 8 (fun _ => 0)) := by rw [eh_35]; exact (f_up_n ne_q_1_q_34).trans fh_33_q_1
  have fh_35_q_4 : h_35 q_4 = some (iar (g.2.1 0) 8 (fun _ => 0)) := by rw [eh_35]; exact (f_up_n ne_q_4_q_34).trans fh_33_q_4
  have fh_35_q_7 : h_35 q_7 = some (iar (g.2.1 0) 8 (fun _ => 0)) := by rw [eh_35]; exact (f_up_n ne_q_7_q_34).trans fh_33_q_7
  have fh_35_q_10 : h_35 q_10 = some (iar (g.2.1 0) 8 (fun _ => 0)) := by rw [eh_35]; exact (f_up_n ne_q_10_q_34).trans fh_33_q_10
  have fh_35_q_13 : h_35 q_13 = some (iar (g.2.1 0) 4 (fun _ => 0)) := by rw [eh_35]; exact (f_up_n ne_q_13_q_34).trans fh_33_q_13
  have fh_35_q_16 : h_35 q_16 = some (iar (g.2.1 0) 4 (fun _ => 0)) := by rw [eh_35]; exact (f_up_n ne_q_16_q_34).trans fh_33_q_16
  have fh_35_q_19 : h_35 q_19 = some (iar (g.2.1 0) 2 (fun _ => 0)) := by rw [eh_35]; exact (f_up_n ne_q_19_q_34).trans fh_33_q_19
  have fh_35_q_22 : h_35 q_22 = some (iar (g.2.1 1) 2 (fun _ => 0)) := by rw [eh_35]; exact (f_up_n ne_q_22_q_34).trans fh_33_q_22
  have fh_35_q_25 : h_35 q_25 = some (iar (g.2.1 0) 60 (fun _ => 0)) := by rw [eh_35]; exact (f_up_n ne_q_25_q_34).trans fh_33_q_25
  have fh_35_q_28 : h_35 q_28 = some (iar (g.2.1 0) 60 (fun _ => 0)) := by rw [eh_35]; exact (f_up_n ne_q_28_q_34).trans fh_33_q_28
  have fh_35_q_31 : h_35 q_31 = some (iar (g.2.1 0) 60 (fun _ => 0)) := by rw [eh_35]; exact (f_up_n ne_q_31_q_34).trans fh_33_q_31
  have fh_35_q_34 : h_35 q_34 = some (iar (g.2.1 0) 60 (fun _ => 0)) := by rw [eh_35]; exact f_up_s _ _ _
  have frh_35 : ∀ z x, z ≠ a → h z = some x → h_35 z = some x := fun z x hz hx => by rw [eh_35, f_up_n (fun y => by have h_ := frh_33 z x hz hx; rw [y, nq_34] at h_; cases h_)]; exact frh_33 z x hz hx
  have nb_q_34 : h q_34 = none := nb_of frh_33 (Ne.symm ne_a_q_34) nq_34
  have ndh_35 := al_cons (h' := h_35) ndh_33.1 ndh_33.2 nq_34 (by rw [fh_35_q_34]; exact fun z => by cases z) (fun x _ hx => by rw [eh_35]; exact f_up_some hx)
  obtain ⟨h_36, eh_36⟩ : ∃ z_, z_ = f_up h_35 a (.inr (8, [.int (iI (0)), .ref q_1, .ref q_4, .ref q_7, .ref q_10, .int (iI (0)), .ref q_13, .ref q_16, .ref q_19, .ref q_22, .ref q_25, .ref q_28, .ref q_31, .ref q_34, .null, .null, .null, .int (iI (0)), .int (iI (0)), .null, .null])) := ⟨_, rfl⟩
  have fh_36_q_1 : h_36 q_1 = some (iar (g.2.1 0) 8 (fun _ => 0)) := by rw [eh_36]; exact (f_up_n (Ne.symm ne_a_q_1)).trans fh_35_q_1
  have fh_36_q_4 : h_36 q_4 = some (iar (g.2.1 0) 8 (fun _ => 0)) := by rw [eh_36]; exact (f_up_n (Ne.symm ne_a_q_4)).trans fh_35_q_4
  have fh_36_q_7 : h_36 q_7 = some (iar (g.2.1 0) 8 (fun _ => 0)) := by rw [eh_36]; exact (f_up_n (Ne.symm ne_a_q_7)).trans fh_35_q_7
  have fh_36_q_10 : h_36 q_10 = some (iar (g.2.1 0) 8 (fun _ => 0)) := by rw [eh_36]; exact (f_up_n (Ne.symm ne_a_q_10)).trans fh_35_q_10
  have fh_36_q_13 : h_36 q_13 = some (iar (g.2.1 0) 4 (fun _ => 0)) := by rw [eh_36]; exact (f_up_n (Ne.symm ne_a_q_13)).trans fh_35_q_13
  have fh_36_q_16 : h_36 q_16 = some (iar (g.2.1 0) 4 (fun _ => 0)) := by rw [eh_36]; exact (f_up_n (Ne.symm ne_a_q_16)).trans fh_35_q_16
  have fh_36_q_19 : h_36 q_19 = some (iar (g.2.1 0) 2 (fun _ => 0)) := by rw [eh_36]; exact (f_up_n (Ne.symm ne_a_q_19)).trans fh_35_q_19
  have fh_36_q_22 : h_36 q_22 = some (iar (g.2.1 1) 2 (fun _ => 0)) := by rw [eh_36]; exact (f_up_n (Ne.symm ne_a_q_22)).trans fh_35_q_22
  have fh_36_q_25 : h_36 q_25 = some (iar (g.2.1 0) 60 (fun _ => 0)) := by rw [eh_36]; exact (f_up_n (Ne.symm ne_a_q_25)).trans fh_35_q_25
  have fh_36_q_28 : h_36 q_28 = some (iar (g.2.1 0) 60 (fun _ => 0)) := by rw [eh_36]; exact (f_up_n (Ne.symm ne_a_q_28)).trans fh_35_q_28
  have fh_36_q_31 : h_36 q_31 = some (iar (g.2.1 0) 60 (fun _ => 0)) := by rw [eh_36]; exact (f_up_n (Ne.symm ne_a_q_31)).trans fh_35_q_31
  have fh_36_q_34 : h_36 q_34 = some (iar (g.2.1 0) 60 (fun _ => 0)) := by rw [eh_36]; exact (f_up_n (Ne.symm ne_a_q_34)).trans fh_35_q_34
  have fh_36_a : h_36 a = some (.inr (8, [.int (iI (0)), .ref q_1, .ref q_4, .ref q_7, .ref q_10, .int (iI (0)), .ref q_13, .ref q_16, .ref q_19, .ref q_22, .ref q_25, .ref q_28, .ref q_31, .ref q_34, .null, .null, .null, .int (iI (0)), .int (iI (0)), .null, .null])) := by rw [eh_36]; exact f_up_s _ _ _
  have frh_36 : ∀ z x, z ≠ a → h z = some x → h_36 z = some x := fun z x hz hx => by rw [eh_36, f_up_n hz]; exact frh_35 z x hz hx
  have ndh_36 : ([q_34, q_31, q_28, q_25, q_22, q_19, q_16, q_13, q_10, q_7, q_4, q_1, a] : List Nat).Nodup ∧ ∀ x ∈ ([q_34, q_31, q_28, q_25, q_22, q_19, q_16, q_13, q_10, q_7, q_4, q_1, a] : List Nat), h_36 x ≠ none := ⟨ndh_35.1, fun x hx => by rw [eh_36]; exact f_up_some (ndh_35.2 x hx)⟩
  refine v_putF F (pc := 93) fp_X5_44_8 dX5_init_93 fh_35_a hinit rfl rfl (Nat.le_of_ble_eq_true rfl) (h' := h_36) eh_36.symm ?_
  refine v_aload_n F (pc := 96) dX5_init_96 rfl ?_
  refine v_bipush F (pc := 97) dX5_init_97 (by decide) ?_
  refine v_newi F (pc := 99) (n := 60) dX5_init_99 (by decide) (Nat.le_of_ble_eq_true rfl) (Nat.le_of_ble_eq_true rfl) (fun q_37 nq_37 => ?_)
  have ne_a_q_37 : a ≠ q_37 := fun z_ => by have h_ := fh_36_a; rw [z_, nq_37] at h_; cases h_
  have ne_q_1_q_37 : q_1 ≠ q_37 := fun z_ => by have h_ := fh_36_q_1; rw [z_, nq_37] at h_; cases h_
  have ne_q_4_q_37 : q_4 ≠ q_37 := fun z_ => by have h_ := fh_36_q_4; rw [z_, nq_37] at h_; cases h_
  have ne_q_7_q_37 : q_7 ≠ q_37 := fun z_ => by have h_ := fh_36_q_7; rw [z_, nq_37] at h_; cases h_
  have ne_q_10_q_37 : q_10 ≠ q_37 := fun z_ => by have h_ := fh_36_q_10; rw [z_, nq_37] at h_; cases h_
  have ne_q_13_q_37 : q_13 ≠ q_37 := fun z_ => by have h_ := fh_36_q_13; rw [z_, nq_37] at h_; cases h_
  have ne_q_16_q_37 : q_16 ≠ q_37 := fun z_ => by have h_ := fh_36_q_16; rw [z_, nq_37] at h_; cases h_
  have ne_q_19_q_37 : q_19 ≠ q_37 := fun z_ => by have h_ := fh_36_q_19; rw [z_, nq_37] at h_; cases h_
  have ne_q_22_q_37 : q_22 ≠ q_37 := fun z_ => by have h_ := fh_36_q_22; rw [z_, nq_37] at h_; cases h_
  have ne_q_25_q_37 : q_25 ≠ q_37 := fun z_ => by have h_ := fh_36_q_25; rw [z_, nq_37] at h_; cases h_
  have ne_q_28_q_37 : q_28 ≠ q_37 := fun z_ => by have h_ := fh_36_q_28; rw [z_, nq_37] at h_; cases h_
  have ne_q_31_q_37 : q_31 ≠ q_37 := fun z_ => by have h_ := fh_36_q_31; rw [z_, nq_37] at h_; cases h_
  have ne_q_34_q_37 : q_34 ≠ q_37 := fun z_ => by have h_ := fh_36_q_34; rw [z_, nq_37] at h_; cases h_
  obtain ⟨h_38, eh_38⟩ : ∃ z_, z_ = f_up h_36 q_37 (iar (g.2.1 0) 60 (fun _ => 0)) := ⟨_, rfl⟩
  rw [← eh_38]
  have fh_38_a : h_38 a = some (.inr (8, [.int (iI (0)), .ref q_1, .ref q_4, .ref q_7, .ref q_10, .int (iI (0)), .ref q_13, .ref q_16, .ref q_19, .ref q_22, .ref q_25, .ref q_28, .ref q_31, .ref q_34, .null, .null, .null, .int (iI (0)), .int (iI (0)), .null, .null])) := by rw [eh_38]; exact (f_up_n ne_a_q_37).trans fh_36_a
  have fh_38_q_1 : h_38 q_1 = some (iar (g.2.1 0) 8 (fun _ => 0)) := by rw [eh_38]; exact (f_up_n ne_q_1_q_37).trans fh_36_q_1
  have fh_38_q_4 : h_38 q_4 = some (iar (g.2.1 0) 8 (fun _ => 0)) := by rw [eh_38]; exact (f_up_n ne_q_4_q_37).trans fh_36_q_4
  have fh_38_q_7 : h_38 q_7 = some (iar (g.2.1 0) 8 (fun _ => 0)) := by rw [eh_38]; exact (f_up_n ne_q_7_q_37).trans fh_36_q_7
  have fh_38_q_10 : h_38 q_10 = some (iar (g.2.1 0) 8 (fun _ => 0)) := by rw [eh_38]; exact (f_up_n ne_q_10_q_37).trans fh_36_q_10
  have fh_38_q_13 : h_38 q_13 = some (iar (g.2.1 0) 4 (fun _ => 0)) := by rw [eh_38]; exact (f_up_n ne_q_13_q_37).trans fh_36_q_13
  have fh_38_q_16 : h_38 q_16 = some (iar (g.2.1 0) 4 (fun _ => 0)) := by rw [eh_38]; exact (f_up_n ne_q_16_q_37).trans fh_36_q_16
  have fh_38_q_19 : h_38 q_19 = some (iar (g.2.1 0) 2 (fun _ => 0)) := by rw [eh_38]; exact (f_up_n ne_q_19_q_37).trans fh_36_q_19
  have fh_38_q_22 : h_38 q_22 = some (iar (g.2.1 1) 2 (fun _ => 0)) := by rw [eh_38]; exact (f_up_n ne_q_22_q_37).trans fh_36_q_22
  have fh_38_q_25 : h_38 q_25 = some (iar (g.2.1 0) 60 (fun _ => 0)) := by rw [eh_38]; exact (f_up_n ne_q_25_q_37).trans fh_36_q_25
  have fh_38_q_28 : h_38 q_28 = some (iar (g.2.1 0) 60 (fun _ => 0)) := by rw [eh_38]; exact (f_up_n ne_q_28_q_37).trans fh_36_q_28
  have fh_38_q_31 : h_38 q_31 = some (iar (g.2.1 0) 60 (fun _ => 0)) := by rw [eh_38]; exact (f_up_n ne_q_31_q_37).trans fh_36_q_31
  have fh_38_q_34 : h_38 q_34 = some (iar (g.2.1 0) 60 (fun _ => 0)) := by rw [eh_38]; exact (f_up_n ne_q_34_q_37).trans fh_36_q_34
  have fh_38_q_37 : h_38 q_37 = some (iar (g.2.1 0) 60 (fun _ => 0)) := by rw [eh_38]; exact f_up_s _ _ _
  have frh_38 : ∀ z x, z ≠ a → h z = some x → h_38 z = some x := fun z x hz hx => by rw [eh_38, f_up_n (fun y => by have h_ := frh_36 z x hz hx; rw [y, nq_37] at h_; cases h_)]; exact frh_36 z x hz hx
  have nb_q_37 : h q_37 = none := nb_of frh_36 (Ne.symm ne_a_q_37) nq_37
  have ndh_38 := al_cons (h' := h_38) ndh_36.1 ndh_36.2 nq_37 (by rw [fh_38_q_37]; exact fun z => by cases z) (fun x _ hx => by rw [eh_38]; exact f_up_some hx)
  obtain ⟨h_39, eh_39⟩ : ∃ z_, z_ = f_up h_38 a (.inr (8, [.int (iI (0)), .ref q_1, .ref q_4, .ref q_7, .ref q_10, .int (iI (0)), .ref q_13, .ref q_16, .ref q_19, .ref q_22, .ref q_25, .ref q_28, .ref q_31, .ref q_34, .ref q_37, .null, .null, .int (iI (0)), .int (iI (0)), .null, .null])) := ⟨_, rfl⟩
  have fh_39_q_1 : h_39 q_1 = some (iar (g.2.1 0) 8 (fun _ => 0)) := by rw [eh_39]; exact (f_up_n (Ne.symm ne_a_q_1)).trans fh_38_q_1
  have fh_39_q_4 : h_39 q_4 = some (iar (g.2.1 0) 8 (fun _ => 0)) := by rw [eh_39]; exact (f_up_n (Ne.symm ne_a_q_4)).trans fh_38_q_4
  have fh_39_q_7 : h_39 q_7 = some (iar (g.2.1 0) 8 (fun _ => 0)) := by rw [eh_39]; exact (f_up_n (Ne.symm ne_a_q_7)).trans fh_38_q_7
  have fh_39_q_10 : h_39 q_10 = some (iar (g.2.1 0) 8 (fun _ => 0)) := by rw [eh_39]; exact (f_up_n (Ne.symm ne_a_q_10)).trans fh_38_q_10
  have fh_39_q_13 : h_39 q_13 = some (iar (g.2.1 0) 4 (fun _ => 0)) := by rw [eh_39]; exact (f_up_n (Ne.symm ne_a_q_13)).trans fh_38_q_13
  have fh_39_q_16 : h_39 q_16 = some (iar (g.2.1 0) 4 (fun _ => 0)) := by rw [eh_39]; exact (f_up_n (Ne.symm ne_a_q_16)).trans fh_38_q_16
  have fh_39_q_19 : h_39 q_19 = some (iar (g.2.1 0) 2 (fun _ => 0)) := by rw [eh_39]; exact (f_up_n (Ne.symm ne_a_q_19)).trans fh_38_q_19
  have fh_39_q_22 : h_39 q_22 = some (iar (g.2.1 1) 2 (fun _ => 0)) := by rw [eh_39]; exact (f_up_n (Ne.symm ne_a_q_22)).trans fh_38_q_22
  have fh_39_q_25 : h_39 q_25 = some (iar (g.2.1 0) 60 (fun _ => 0)) := by rw [eh_39]; exact (f_up_n (Ne.symm ne_a_q_25)).trans fh_38_q_25
  have fh_39_q_28 : h_39 q_28 = some (iar (g.2.1 0) 60 (fun _ => 0)) := by rw [eh_39]; exact (f_up_n (Ne.symm ne_a_q_28)).trans fh_38_q_28
  have fh_39_q_31 : h_39 q_31 = some (iar (g.2.1 0) 60 (fun _ => 0)) := by rw [eh_39]; exact (f_up_n (Ne.symm ne_a_q_31)).trans fh_38_q_31
  have fh_39_q_34 : h_39 q_34 = some (iar (g.2.1 0) 60 (fun _ => 0)) := by rw [eh_39]; exact (f_up_n (Ne.symm ne_a_q_34)).trans fh_38_q_34
  have fh_39_q_37 : h_39 q_37 = some (iar (g.2.1 0) 60 (fun _ => 0)) := by rw [eh_39]; exact (f_up_n (Ne.symm ne_a_q_37)).trans fh_38_q_37
  have fh_39_a : h_39 a = some (.inr (8, [.int (iI (0)), .ref q_1, .ref q_4, .ref q_7, .ref q_10, .int (iI (0)), .ref q_13, .ref q_16, .ref q_19, .ref q_22, .ref q_25, .ref q_28, .ref q_31, .ref q_34, .ref q_37, .null, .null, .int (iI (0)), .int (iI (0)), .null, .null])) := by rw [eh_39]; exact f_up_s _ _ _
  have frh_39 : ∀ z x, z ≠ a → h z = some x → h_39 z = some x := fun z x hz hx => by rw [eh_39, f_up_n hz]; exact frh_38 z x hz hx
  have ndh_39 : ([q_37, q_34, q_31, q_28, q_25, q_22, q_19, q_16, q_13, q_10, q_7, q_4, q_1, a] : List Nat).Nodup ∧ ∀ x ∈ ([q_37, q_34, q_31, q_28, q_25, q_22, q_19, q_16, q_13, q_10, q_7, q_4, q_1, a] : List Nat), h_39 x ≠ none := ⟨ndh_38.1, fun x hx => by rw [eh_39]; exact f_up_some (ndh_38.2 x hx)⟩
  refine v_putF F (pc := 101) fp_X5_47_8 dX5_init_101 fh_38_a hinit rfl rfl (Nat.le_of_ble_eq_true rfl) (h' := h_39) eh_39.symm ?_
  refine v_aload_n F (pc := 104) dX5_init_104 rfl ?_
  refine v_bipush F (pc := 105) dX5_init_105 (by decide) ?_
  refine v_newi F (pc := 107) (n := 60) dX5_init_107 (by decide) (Nat.le_of_ble_eq_true rfl) (Nat.le_of_ble_eq_true rfl) (fun q_40 nq_40 => ?_)
  have ne_a_q_40 : a ≠ q_40 := fun z_ => by have h_ := fh_39_a; rw [z_, nq_40] at h_; cases h_
  have ne_q_1_q_40 : q_1 ≠ q_40 := fun z_ => by have h_ := fh_39_q_1; rw [z_, nq_40] at h_; cases h_
  have ne_q_4_q_40 : q_4 ≠ q_40 := fun z_ => by have h_ := fh_39_q_4; rw [z_, nq_40] at h_; cases h_
  have ne_q_7_q_40 : q_7 ≠ q_40 := fun z_ => by have h_ := fh_39_q_7; rw [z_, nq_40] at h_; cases h_
  have ne_q_10_q_40 : q_10 ≠ q_40 := fun z_ => by have h_ := fh_39_q_10; rw [z_, nq_40] at h_; cases h_
  have ne_q_13_q_40 : q_13 ≠ q_40 := fun z_ => by have h_ := fh_39_q_13; rw [z_, nq_40] at h_; cases h_
  have ne_q_16_q_40 : q_16 ≠ q_40 := fun z_ => by have h_ := fh_39_q_16; rw [z_, nq_40] at h_; cases h_
  have ne_q_19_q_40 : q_19 ≠ q_40 := fun z_ => by have h_ := fh_39_q_19; rw [z_, nq_40] at h_; cases h_
  have ne_q_22_q_40 : q_22 ≠ q_40 := fun z_ => by have h_ := fh_39_q_22; rw [z_, nq_40] at h_; cases h_
  have ne_q_25_q_40 : q_25 ≠ q_40 := fun z_ => by have h_ := fh_39_q_25; rw [z_, nq_40] at h_; cases h_
  have ne_q_28_q_40 : q_28 ≠ q_40 := fun z_ => by have h_ := fh_39_q_28; rw [z_, nq_40] at h_; cases h_
  have ne_q_31_q_40 : q_31 ≠ q_40 := fun z_ => by have h_ := fh_39_q_31; rw [z_, nq_40] at h_; cases h_
  have ne_q_34_q_40 : q_34 ≠ q_40 := fun z_ => by have h_ := fh_39_q_34; rw [z_, nq_40] at h_; cases h_
  have ne_q_37_q_40 : q_37 ≠ q_40 := fun z_ => by have h_ := fh_39_q_37; rw [z_, nq_40] at h_; cases h_
  obtain ⟨h_41, eh_41⟩ : ∃ z_, z_ = f_up h_39 q_40 (iar (g.2.1 0) 60 (fun _ => 0)) := ⟨_, rfl⟩
  rw [← eh_41]
  have fh_41_a : h_41 a = some (.inr (8, [.int (iI (0)), .ref q_1, .ref q_4, .ref q_7, .ref q_10, .int (iI (0)), .ref q_13, .ref q_16, .ref q_19, .ref q_22, .ref q_25, .ref q_28, .ref q_31, .ref q_34, .ref q_37, .null, .null, .int (iI (0)), .int (iI (0)), .null, .null])) := by rw [eh_41]; exact (f_up_n ne_a_q_40).trans fh_39_a
  have fh_41_q_1 : h_41 q_1 = some (iar (g.2.1 0) 8 (fun _ => 0)) := by rw [eh_41]; exact (f_up_n ne_q_1_q_40).trans fh_39_q_1
  have fh_41_q_4 : h_41 q_4 = some (iar (g.2.1 0) 8 (fun _ => 0)) := by rw [eh_41]; exact (f_up_n ne_q_4_q_40).trans fh_39_q_4
  have fh_41_q_7 : h_41 q_7 = some (iar (g.2.1 0) 8 (fun _ => 0)) := by rw [eh_41]; exact (f_up_n ne_q_7_q_40).trans fh_39_q_7
  have fh_41_q_10 : h_41 q_10 = some (iar (g.2.1 0) 8 (fun _ => 0)) := by rw [eh_41]; exact (f_up_n ne_q_10_q_40).trans fh_39_q_10
  have fh_41_q_13 : h_41 q_13 = some (iar (g.2.1 0) 4 (fun _ => 0)) := by rw [eh_41]; exact (f_up_n ne_q_13_q_40).trans fh_39_q_13
  have fh_41_q_16 : h_41 q_16 = some (iar (g.2.1 0) 4 (fun _ => 0)) := by rw [eh_41]; exact (f_up_n ne_q_16_q_40).trans fh_39_q_16
  have fh_41_q_19 : h_41 q_19 = some (iar (g.2.1 0) 2 (fun _ => 0)) := by rw [eh_41]; exact (f_up_n ne_q_19_q_40).trans fh_39_q_19
  have fh_41_q_22 : h_41 q_22 = some (iar (g.2.1 1) 2 (fun _ => 0)) := by rw [eh_41]; exact (f_up_n ne_q_22_q_40).trans fh_39_q_22
  have fh_41_q_25 : h_41 q_25 = some (iar (g.2.1 0) 60 (fun _ => 0)) := by rw [eh_41]; exact (f_up_n ne_q_25_q_40).trans fh_39_q_25
  have fh_41_q_28 : h_41 q_28 = some (iar (g.2.1 0) 60 (fun _ => 0)) := by rw [eh_41]; exact (f_up_n ne_q_28_q_40).trans fh_39_q_28
  have fh_41_q_31 : h_41 q_31 = some (iar (g.2.1 0) 60 (fun _ => 0)) := by rw [eh_41]; exact (f_up_n ne_q_31_q_40).trans fh_39_q_31
  have fh_41_q_34 : h_41 q_34 = some (iar (g.2.1 0) 60 (fun _ => 0)) := by rw [eh_41]; exact (f_up_n ne_q_34_q_40).trans fh_39_q_34
  have fh_41_q_37 : h_41 q_37 = some (iar (g.2.1 0) 60 (fun _ => 0)) := by rw [eh_41]; exact (f_up_n ne_q_37_q_40).trans fh_39_q_37
  have fh_41_q_40 : h_41 q_40 = some (iar (g.2.1 0) 60 (fun _ => 0)) := by rw [eh_41]; exact f_up_s _ _ _
  have frh_41 : ∀ z x, z ≠ a → h z = some x → h_41 z = some x := fun z x hz hx => by rw [eh_41, f_up_n (fun y => by have h_ := frh_39 z x hz hx; rw [y, nq_40] at h_; cases h_)]; exact frh_39 z x hz hx
  have nb_q_40 : h q_40 = none := nb_of frh_39 (Ne.symm ne_a_q_40) nq_40
  have ndh_41 := al_cons (h' := h_41) ndh_39.1 ndh_39.2 nq_40 (by rw [fh_41_q_40]; exact fun z => by cases z) (fun x _ hx => by rw [eh_41]; exact f_up_some hx)
  obtain ⟨h_42, eh_42⟩ : ∃ z_, z_ = f_up h_41 a (.inr (8, [.int (iI (0)), .ref q_1, .ref q_4, .ref q_7, .ref q_10, .int (iI (0)), .ref q_13, .ref q_16, .ref q_19, .ref q_22, .ref q_25, .ref q_28, .ref q_31, .ref q_34, .ref q_37, .ref q_40, .null, .int (iI (0)), .int (iI (0)), .null, .null])) := ⟨_, rfl⟩
  have fh_42_q_1 : h_42 q_1 = some (iar (g.2.1 0) 8 (fun _ => 0)) := by rw [eh_42]; exact (f_up_n (Ne.symm ne_a_q_1)).trans fh_41_q_1
  have fh_42_q_4 : h_42 q_4 = some (iar (g.2.1 0) 8 (fun _ => 0)) := by rw [eh_42]; exact (f_up_n (Ne.symm ne_a_q_4)).trans fh_41_q_4
  have fh_42_q_7 : h_42 q_7 = some (iar (g.2.1 0) 8 (fun _ => 0)) := by rw [eh_42]; exact (f_up_n (Ne.symm ne_a_q_7)).trans fh_41_q_7
  have fh_42_q_10 : h_42 q_10 = some (iar (g.2.1 0) 8 (fun _ => 0)) := by rw [eh_42]; exact (f_up_n (Ne.symm ne_a_q_10)).trans fh_41_q_10
  have fh_42_q_13 : h_42 q_13 = some (iar (g.2.1 0) 4 (fun _ => 0)) := by rw [eh_42]; exact (f_up_n (Ne.symm ne_a_q_13)).trans fh_41_q_13
  have fh_42_q_16 : h_42 q_16 = some (iar (g.2.1 0) 4 (fun _ => 0)) := by rw [eh_42]; exact (f_up_n (Ne.symm ne_a_q_16)).trans fh_41_q_16
  have fh_42_q_19 : h_42 q_19 = some (iar (g.2.1 0) 2 (fun _ => 0)) := by rw [eh_42]; exact (f_up_n (Ne.symm ne_a_q_19)).trans fh_41_q_19
  have fh_42_q_22 : h_42 q_22 = some (iar (g.2.1 1) 2 (fun _ => 0)) := by rw [eh_42]; exact (f_up_n (Ne.symm ne_a_q_22)).trans fh_41_q_22
  have fh_42_q_25 : h_42 q_25 = some (iar (g.2.1 0) 60 (fun _ => 0)) := by rw [eh_42]; exact (f_up_n (Ne.symm ne_a_q_25)).trans fh_41_q_25
  have fh_42_q_28 : h_42 q_28 = some (iar (g.2.1 0) 60 (fun _ => 0)) := by rw [eh_42]; exact (f_up_n (Ne.symm ne_a_q_28)).trans fh_41_q_28
  have fh_42_q_31 : h_42 q_31 = some (iar (g.2.1 0) 60 (fun _ => 0)) := by rw [eh_42]; exact (f_up_n (Ne.symm ne_a_q_31)).trans fh_41_q_31
  have fh_42_q_34 : h_42 q_34 = some (iar (g.2.1 0) 60 (fun _ => 0)) := by rw [eh_42]; exact (f_up_n (Ne.symm ne_a_q_34)).trans fh_41_q_34
  have fh_42_q_37 : h_42 q_37 = some (iar (g.2.1 0) 60 (fun _ => 0)) := by rw [eh_42]; exact (f_up_n (Ne.symm ne_a_q_37)).trans fh_41_q_37
  have fh_42_q_40 : h_42 q_40 = some (iar (g.2.1 0) 60 (fun _ => 0)) := by rw [eh_42]; exact (f_up_n (Ne.symm ne_a_q_40)).trans fh_41_q_40
  have fh_42_a : h_42 a = some (.inr (8, [.int (iI (0)), .ref q_1, .ref q_4, .ref q_7, .ref q_10, .int (iI (0)), .ref q_13, .ref q_16, .ref q_19, .ref q_22, .ref q_25, .ref q_28, .ref q_31, .ref q_34, .ref q_37, .ref q_40, .null, .int (iI (0)), .int (iI (0)), .null, .null])) := by rw [eh_42]; exact f_up_s _ _ _
  have frh_42 : ∀ z x, z ≠ a → h z = some x → h_42 z = some x := fun z x hz hx => by rw [eh_42, f_up_n hz]; exact frh_41 z x hz hx
  have ndh_42 : ([q_40, q_37, q_34, q_31, q_28, q_25, q_22, q_19, q_16, q_13, q_10, q_7, q_4, q_1, a] : List Nat).Nodup ∧ ∀ x ∈ ([q_40, q_37, q_34, q_31, q_28, q_25, q_22, q_19, q_16, q_13, q_10, q_7, q_4, q_1, a] : List Nat), h_42 x ≠ none := ⟨ndh_41.1, fun x hx => by rw [eh_42]; exact f_up_some (ndh_41.2 x hx)⟩
  refine v_putF F (pc := 109) fp_X5_50_8 dX5_init_109 fh_41_a hinit rfl rfl (Nat.le_of_ble_eq_true rfl) (h' := h_42) eh_42.symm ?_
  refine v_aload_n F (pc := 112) dX5_init_112 rfl ?_
  refine v_bipush F (pc := 113) dX5_init_113 (by decide) ?_
  refine v_newi F (pc := 115) (n := 60) dX5_init_115 (by decide) (Nat.le_of_ble_eq_true rfl) (Nat.le_of_ble_eq_true rfl) (fun q_43 nq_43 => ?_)
  have ne_a_q_43 : a ≠ q_43 := fun z_ => by have h_ := fh_42_a; rw [z_, nq_43] at h_; cases h_
  have ne_q_1_q_43 : q_1 ≠ q_43 := fun z_ => by have h_ := fh_42_q_1; rw [z_, nq_43] at h_; cases h_
  have ne_q_4_q_43 : q_4 ≠ q_43 := fun z_ => by have h_ := fh_42_q_4; rw [z_, nq_43] at h_; cases h_
  have ne_q_7_q_43 : q_7 ≠ q_43 := fun z_ => by have h_ := fh_42_q_7; rw [z_, nq_43] at h_; cases h_
  have ne_q_10_q_43 : q_10 ≠ q_43 := fun z_ => by have h_ := fh_42_q_10; rw [z_, nq_43] at h_; cases h_
  have ne_q_13_q_43 : q_13 ≠ q_43 := fun z_ => by have h_ := fh_42_q_13; rw [z_, nq_43] at h_; cases h_
  have ne_q_16_q_43 : q_16 ≠ q_43 := fun z_ => by have h_ := fh_42_q_16; rw [z_, nq_43] at h_; cases h_
  have ne_q_19_q_43 : q_19 ≠ q_43 := fun z_ => by have h_ := fh_42_q_19; rw [z_, nq_43] at h_; cases h_
  have ne_q_22_q_43 : q_22 ≠ q_43 := fun z_ => by have h_ := fh_42_q_22; rw [z_, nq_43] at h_; cases h_
  have ne_q_25_q_43 : q_25 ≠ q_43 := fun z_ => by have h_ := fh_42_q_25; rw [z_, nq_43] at h_; cases h_
  have ne_q_28_q_43 : q_28 ≠ q_43 := fun z_ => by have h_ := fh_42_q_28; rw [z_, nq_43] at h_; cases h_
  have ne_q_31_q_43 : q_31 ≠ q_43 := fun z_ => by have h_ := fh_42_q_31; rw [z_, nq_43] at h_; cases h_
  have ne_q_34_q_43 : q_34 ≠ q_43 := fun z_ => by have h_ := fh_42_q_34; rw [z_, nq_43] at h_; cases h_
  have ne_q_37_q_43 : q_37 ≠ q_43 := fun z_ => by have h_ := fh_42_q_37; rw [z_, nq_43] at h_; cases h_
  have ne_q_40_q_43 : q_40 ≠ q_43 := fun z_ => by have h_ := fh_42_q_40; rw [z_, nq_43] at h_; cases h_
  obtain ⟨h_44, eh_44⟩ : ∃ z_, z_ = f_up h_42 q_43 (iar (g.2.1 0) 60 (fun _ => 0)) := ⟨_, rfl⟩
  rw [← eh_44]
  have fh_44_a : h_44 a = some (.inr (8, [.int (iI (0)), .ref q_1, .ref q_4, .ref q_7, .ref q_10, .int (iI (0)), .ref q_13, .ref q_16, .ref q_19, .ref q_22, .ref q_25, .ref q_28, .ref q_31, .ref q_34, .ref q_37, .ref q_40, .null, .int (iI (0)), .int (iI (0)), .null, .null])) := by rw [eh_44]; exact (f_up_n ne_a_q_43).trans fh_42_a
  have fh_44_q_1 : h_44 q_1 = some (iar (g.2.1 0) 8 (fun _ => 0)) := by rw [eh_44]; exact (f_up_n ne_q_1_q_43).trans fh_42_q_1
  have fh_44_q_4 : h_44 q_4 = some (iar (g.2.1 0) 8 (fun _ => 0)) := by rw [eh_44]; exact (f_up_n ne_q_4_q_43).trans fh_42_q_4
  have fh_44_q_7 : h_44 q_7 = some (iar (g.2.1 0) 8 (fun _ => 0)) := by rw [eh_44]; exact (f_up_n ne_q_7_q_43).trans fh_42_q_7
  have fh_44_q_10 : h_44 q_10 = some (iar (g.2.1 0) 8 (fun _ => 0)) := by rw [eh_44]; exact (f_up_n ne_q_10_q_43).trans fh_42_q_10
  have fh_44_q_13 : h_44 q_13 = some (iar (g.2.1 0) 4 (fun _ => 0)) := by rw [eh_44]; exact (f_up_n ne_q_13_q_43).trans fh_42_q_13
  have fh_44_q_16 : h_44 q_16 = some (iar (g.2.1 0) 4 (fun _ => 0)) := by rw [eh_44]; exact (f_up_n ne_q_16_q_43).trans fh_42_q_16
  have fh_44_q_19 : h_44 q_19 = some (iar (g.2.1 0) 2 (fun _ => 0)) := by rw [eh_44]; exact (f_up_n ne_q_19_q_43).trans fh_42_q_19
  have fh_44_q_22 : h_44 q_22 = some (iar (g.2.1 1) 2 (fun _ => 0)) := by rw [eh_44]; exact (f_up_n ne_q_22_q_43).trans fh_42_q_22
  have fh_44_q_25 : h_44 q_25 = some (iar (g.2.1 0) 60 (fun _ => 0)) := by rw [eh_44]; exact (f_up_n ne_q_25_q_43).trans fh_42_q_25
  have fh_44_q_28 : h_44 q_28 = some (iar (g.2.1 0) 60 (fun _ => 0)) := by rw [eh_44]; exact (f_up_n ne_q_28_q_43).trans fh_42_q_28
  have fh_44_q_31 : h_44 q_31 = some (iar (g.2.1 0) 60 (fun _ => 0)) := by rw [eh_44]; exact (f_up_n ne_q_31_q_43).trans fh_42_q_31
  have fh_44_q_34 : h_44 q_34 = some (iar (g.2.1 0) 60 (fun _ => 0)) := by rw [eh_44]; exact (f_up_n ne_q_34_q_43).trans fh_42_q_34
  have fh_44_q_37 : h_44 q_37 = some (iar (g.2.1 0) 60 (fun _ => 0)) := by rw [eh_44]; exact (f_up_n ne_q_37_q_43).trans fh_42_q_37
  have fh_44_q_40 : h_44 q_40 = some (iar (g.2.1 0) 60 (fun _ => 0)) := by rw [eh_44]; exact (f_up_n ne_q_40_q_43).trans fh_42_q_40
  have fh_44_q_43 : h_44 q_43 = some (iar (g.2.1 0) 60 (fun _ => 0)) := by rw [eh_44]; exact f_up_s _ _ _
  have frh_44 : ∀ z x, z ≠ a → h z = some x → h_44 z = some x := fun z x hz hx => by rw [eh_44, f_up_n (fun y => by have h_ := frh_42 z x hz hx; rw [y, nq_43] at h_; cases h_)]; exact frh_42 z x hz hx
  have nb_q_43 : h q_43 = none := nb_of frh_42 (Ne.symm ne_a_q_43) nq_43
  have ndh_44 := al_cons (h' := h_44) ndh_42.1 ndh_42.2 nq_43 (by rw [fh_44_q_43]; exact fun z => by cases z) (fun x _ hx => by rw [eh_44]; exact f_up_some hx)
  obtain ⟨h_45, eh_45⟩ : ∃ z_, z_ = f_up h_44 a (.inr (8, [.int (iI (0)), .ref q_1, .ref q_4, .ref q_7, .ref q_10, .int (iI (0)), .ref q_13, .ref q_16, .ref q_19, .ref q_22, .ref q_25, .ref q_28, .ref q_31, .ref q_34, .ref q_37, .ref q_40, .ref q_43, .int (iI (0)), .int (iI (0)), .null, .null])) := ⟨_, rfl⟩
  have fh_45_q_1 : h_45 q_1 = some (iar (g.2.1 0) 8 (fun _ => 0)) := by rw [eh_45]; exact (f_up_n (Ne.symm ne_a_q_1)).trans fh_44_q_1
  have fh_45_q_4 : h_45 q_4 = some (iar (g.2.1 0) 8 (fun _ => 0)) := by rw [eh_45]; exact (f_up_n (Ne.symm ne_a_q_4)).trans fh_44_q_4
  have fh_45_q_7 : h_45 q_7 = some (iar (g.2.1 0) 8 (fun _ => 0)) := by rw [eh_45]; exact (f_up_n (Ne.symm ne_a_q_7)).trans fh_44_q_7
  have fh_45_q_10 : h_45 q_10 = some (iar (g.2.1 0) 8 (fun _ => 0)) := by rw [eh_45]; exact (f_up_n (Ne.symm ne_a_q_10)).trans fh_44_q_10
  have fh_45_q_13 : h_45 q_13 = some (iar (g.2.1 0) 4 (fun _ => 0)) := by rw [eh_45]; exact (f_up_n (Ne.symm ne_a_q_13)).trans fh_44_q_13
  have fh_45_q_16 : h_45 q_16 = some (iar (g.2.1 0) 4 (fun _ => 0)) := by rw [eh_45]; exact (f_up_n (Ne.symm ne_a_q_16)).trans fh_44_q_16
  have fh_45_q_19 : h_45 q_19 = some (iar (g.2.1 0) 2 (fun _ => 0)) := by rw [eh_45]; exact (f_up_n (Ne.symm ne_a_q_19)).trans fh_44_q_19
  have fh_45_q_22 : h_45 q_22 = some (iar (g.2.1 1) 2 (fun _ => 0)) := by rw [eh_45]; exact (f_up_n (Ne.symm ne_a_q_22)).trans fh_44_q_22
  have fh_45_q_25 : h_45 q_25 = some (iar (g.2.1 0) 60 (fun _ => 0)) := by rw [eh_45]; exact (f_up_n (Ne.symm ne_a_q_25)).trans fh_44_q_25
  have fh_45_q_28 : h_45 q_28 = some (iar (g.2.1 0) 60 (fun _ => 0)) := by rw [eh_45]; exact (f_up_n (Ne.symm ne_a_q_28)).trans fh_44_q_28
  have fh_45_q_31 : h_45 q_31 = some (iar (g.2.1 0) 60 (fun _ => 0)) := by rw [eh_45]; exact (f_up_n (Ne.symm ne_a_q_31)).trans fh_44_q_31
  have fh_45_q_34 : h_45 q_34 = some (iar (g.2.1 0) 60 (fun _ => 0)) := by rw [eh_45]; exact (f_up_n (Ne.symm ne_a_q_34)).trans fh_44_q_34
  have fh_45_q_37 : h_45 q_37 = some (iar (g.2.1 0) 60 (fun _ => 0)) := by rw [eh_45]; exact (f_up_n (Ne.symm ne_a_q_37)).trans fh_44_q_37
  have fh_45_q_40 : h_45 q_40 = some (iar (g.2.1 0) 60 (fun _ => 0)) := by rw [eh_45]; exact (f_up_n (Ne.symm ne_a_q_40)).trans fh_44_q_40
  have fh_45_q_43 : h_45 q_43 = some (iar (g.2.1 0) 60 (fun _ => 0)) := by rw [eh_45]; exact (f_up_n (Ne.symm ne_a_q_43)).trans fh_44_q_43
  have fh_45_a : h_45 a = some (.inr (8, [.int (iI (0)), .ref q_1, .ref q_4, .ref q_7, .ref q_10, .int (iI (0)), .ref q_13, .ref q_16, .ref q_19, .ref q_22, .ref q_25, .ref q_28, .ref q_31, .ref q_34, .ref q_37, .ref q_40, .ref q_43, .int (iI (0)), .int (iI (0)), .null, .null])) := by rw [eh_45]; exact f_up_s _ _ _
  have frh_45 : ∀ z x, z ≠ a → h z = some x → h_45 z = some x := fun z x hz hx => by rw [eh_45, f_up_n hz]; exact frh_44 z x hz hx
  have ndh_45 : ([q_43, q_40, q_37, q_34, q_31, q_28, q_25, q_22, q_19, q_16, q_13, q_10, q_7, q_4, q_1, a] : List Nat).Nodup ∧ ∀ x ∈ ([q_43, q_40, q_37, q_34, q_31, q_28, q_25, q_22, q_19, q_16, q_13, q_10, q_7, q_4, q_1, a] : List Nat), h_45 x ≠ none := ⟨ndh_44.1, fun x hx => by rw [eh_45]; exact f_up_some (ndh_44.2 x hx)⟩
  refine v_putF F (pc := 117) fp_X5_53_8 dX5_init_117 fh_44_a hinit rfl rfl (Nat.le_of_ble_eq_true rfl) (h' := h_45) eh_45.symm ?_
  refine v_aload_n F (pc := 120) dX5_init_120 rfl ?_
  refine v_bipush F (pc := 121) dX5_init_121 (by decide) ?_
  refine v_newi F (pc := 123) (n := 60) dX5_init_123 (by decide) (Nat.le_of_ble_eq_true rfl) (Nat.le_of_ble_eq_true rfl) (fun q_46 nq_46 => ?_)
  have ne_a_q_46 : a ≠ q_46 := fun z_ => by have h_ := fh_45_a; rw [z_, nq_46] at h_; cases h_
  have ne_q_1_q_46 : q_1 ≠ q_46 := fun z_ => by have h_ := fh_45_q_1; rw [z_, nq_46] at h_; cases h_
  have ne_q_4_q_46 : q_4 ≠ q_46 := fun z_ => by have h_ := fh_45_q_4; rw [z_, nq_46] at h_; cases h_
  have ne_q_7_q_46 : q_7 ≠ q_46 := fun z_ => by have h_ := fh_45_q_7; rw [z_, nq_46] at h_; cases h_
  have ne_q_10_q_46 : q_10 ≠ q_46 := fun z_ => by have h_ := fh_45_q_10; rw [z_, nq_46] at h_; cases h_
  have ne_q_13_q_46 : q_13 ≠ q_46 := fun z_ => by have h_ := fh_45_q_13; rw [z_, nq_46] at h_; cases h_
  have ne_q_16_q_46 : q_16 ≠ q_46 := fun z_ => by have h_ := fh_45_q_16; rw [z_, nq_46] at h_; cases h_
  have ne_q_19_q_46 : q_19 ≠ q_46 := fun z_ => by have h_ := fh_45_q_19; rw [z_, nq_46] at h_; cases h_
  have ne_q_22_q_46 : q_22 ≠ q_46 := fun z_ => by have h_ := fh_45_q_22; rw [z_, nq_46] at h_; cases h_
  have ne_q_25_q_46 : q_25 ≠ q_46 := fun z_ => by have h_ := fh_45_q_25; rw [z_, nq_46] at h_; cases h_
  have ne_q_28_q_46 : q_28 ≠ q_46 := fun z_ => by have h_ := fh_45_q_28; rw [z_, nq_46] at h_; cases h_
  have ne_q_31_q_46 : q_31 ≠ q_46 := fun z_ => by have h_ := fh_45_q_31; rw [z_, nq_46] at h_; cases h_
  have ne_q_34_q_46 : q_34 ≠ q_46 := fun z_ => by have h_ := fh_45_q_34; rw [z_, nq_46] at h_; cases h_
  have ne_q_37_q_46 : q_37 ≠ q_46 := fun z_ => by have h_ := fh_45_q_37; rw [z_, nq_46] at h_; cases h_
  have ne_q_40_q_46 : q_40 ≠ q_46 := fun z_ => by have h_ := fh_45_q_40; rw [z_, nq_46] at h_; cases h_
  have ne_q_43_q_46 : q_43 ≠ q_46 := fun z_ => by have h_ := fh_45_q_43; rw [z_, nq_46] at h_; cases h_
  obtain ⟨h_47, eh_47⟩ : ∃ z_, z_ = f_up h_45 q_46 (iar (g.2.1 0) 60 (fun _ => 0)) := ⟨_, rfl⟩
  rw [← eh_47]
  have fh_47_a : h_47 a = some (.inr (8, [.int (iI (0)), .ref q_1, .ref q_4, .ref q_7, .ref q_10, .int (iI (0)), .ref q_13, .ref q_16, .ref q_19, .ref q_22, .ref q_25, .ref q_28, .ref q_31, .ref q_34, .ref q_37, .ref q_40, .ref q_43, .int (iI (0)), .int (iI (0)), .null, .null])) := by rw [eh_47]; exact (f_up_n ne_a_q_46).trans fh_45_a
  have fh_47_q_1 : h_47 q_1 = some (iar (g.2.1 0) 8 (fun _ => 0)) := by rw [eh_47]; exact (f_up_n ne_q_1_q_46).trans fh_45_q_1
  have fh_47_q_4 : h_47 q_4 = some (iar (g.2.1 0) 8 (fun _ => 0)) := by rw [eh_47]; exact (f_up_n ne_q_4_q_46).trans fh_45_q_4
  have fh_47_q_7 : h_47 q_7 = some (iar (g.2.1 0) 8 (fun _ => 0)) := by rw [eh_47]; exact (f_up_n ne_q_7_q_46).trans fh_45_q_7
  have fh_47_q_10 : h_47 q_10 = some (iar (g.2.1 0) 8 (fun _ => 0)) := by rw [eh_47]; exact (f_up_n ne_q_10_q_46).trans fh_45_q_10
  have fh_47_q_13 : h_47 q_13 = some (iar (g.2.1 0) 4 (fun _ => 0)) := by rw [eh_47]; exact (f_up_n ne_q_13_q_46).trans fh_45_q_13
  have fh_47_q_16 : h_47 q_16 = some (iar (g.2.1 0) 4 (fun _ => 0)) := by rw [eh_47]; exact (f_up_n ne_q_16_q_46).trans fh_45_q_16
  have fh_47_q_19 : h_47 q_19 = some (iar (g.2.1 0) 2 (fun _ => 0)) := by rw [eh_47]; exact (f_up_n ne_q_19_q_46).trans fh_45_q_19
  have fh_47_q_22 : h_47 q_22 = some (iar (g.2.1 1) 2 (fun _ => 0)) := by rw [eh_47]; exact (f_up_n ne_q_22_q_46).trans fh_45_q_22
  have fh_47_q_25 : h_47 q_25 = some (iar (g.2.1 0) 60 (fun _ => 0)) := by rw [eh_47]; exact (f_up_n ne_q_25_q_46).trans fh_45_q_25
  have fh_47_q_28 : h_47 q_28 = some (iar (g.2.1 0) 60 (fun _ => 0)) := by rw [eh_47]; exact (f_up_n ne_q_28_q_46).trans fh_45_q_28
  have fh_47_q_31 : h_47 q_31 = some (iar (g.2.1 0) 60 (fun _ => 0)) := by rw [eh_47]; exact (f_up_n ne_q_31_q_46).trans fh_45_q_31
  have fh_47_q_34 : h_47 q_34 = some (iar (g.2.1 0) 60 (fun _ => 0)) := by rw [eh_47]; exact (f_up_n ne_q_34_q_46).trans fh_45_q_34
  have fh_47_q_37 : h_47 q_37 = some (iar (g.2.1 0) 60 (fun _ => 0)) := by rw [eh_47]; exact (f_up_n ne_q_37_q_46).trans fh_45_q_37
  have fh_47_q_40 : h_47 q_40 = some (iar (g.2.1 0) 60 (fun _ => 0)) := by rw [eh_47]; exact (f_up_n ne_q_40_q_46).trans fh_45_q_40
  have fh_47_q_43 : h_47 q_43 = some (iar (g.2.1 0) 60 (fun _ => 0)) := by rw [eh_47]; exact (f_up_n ne_q_43_q_46).trans fh_45_q_43
  have fh_47_q_46 : h_47 q_46 = some (iar (g.2.1 0) 60 (fun _ => 0)) := by rw [eh_47]; exact f_up_s _ _ _
  have frh_47 : ∀ z x, z ≠ a → h z = some x → h_47 z = some x := fun z x hz hx => by rw [eh_47, f_up_n (fun y => by have h_ := frh_45 z x hz hx; rw [y, nq_46] at h_; cases h_)]; exact frh_45 z x hz hx
  have nb_q_46 : h q_46 = none := nb_of frh_45 (Ne.symm ne_a_q_46) nq_46
  have ndh_47 := al_cons (h' := h_47) ndh_45.1 ndh_45.2 nq_46 (by rw [fh_47_q_46]; exact fun z => by cases z) (fun x _ hx => by rw [eh_47]; exact f_up_some hx)
  obtain ⟨h_48, eh_48⟩ : ∃ z_, z_ = f_up h_47 a (.inr (8, [.int (iI (0)), .ref q_1, .ref q_4, .ref q_7, .ref q_10, .int (iI (0)), .ref q_13, .ref q_16, .ref q_19, .ref q_22, .ref q_25, .ref q_28, .ref q_31, .ref q_34, .ref q_37, .ref q_40, .ref q_43, .int (iI (0)), .int (iI (0)), .ref q_46, .null])) := ⟨_, rfl⟩
  have fh_48_q_1 : h_48 q_1 = some (iar (g.2.1 0) 8 (fun _ => 0)) := by rw [eh_48]; exact (f_up_n (Ne.symm ne_a_q_1)).trans fh_47_q_1
  have fh_48_q_4 : h_48 q_4 = some (iar (g.2.1 0) 8 (fun _ => 0)) := by rw [eh_48]; exact (f_up_n (Ne.symm ne_a_q_4)).trans fh_47_q_4
  have fh_48_q_7 : h_48 q_7 = some (iar (g.2.1 0) 8 (fun _ => 0)) := by rw [eh_48]; exact (f_up_n (Ne.symm ne_a_q_7)).trans fh_47_q_7
  have fh_48_q_10 : h_48 q_10 = some (iar (g.2.1 0) 8 (fun _ => 0)) := by rw [eh_48]; exact (f_up_n (Ne.symm ne_a_q_10)).trans fh_47_q_10
  have fh_48_q_13 : h_48 q_13 = some (iar (g.2.1 0) 4 (fun _ => 0)) := by rw [eh_48]; exact (f_up_n (Ne.symm ne_a_q_13)).trans fh_47_q_13
  have fh_48_q_16 : h_48 q_16 = some (iar (g.2.1 0) 4 (fun _ => 0)) := by rw [eh_48]; exact (f_up_n (Ne.symm ne_a_q_16)).trans fh_47_q_16
  have fh_48_q_19 : h_48 q_19 = some (iar (g.2.1 0) 2 (fun _ => 0)) := by rw [eh_48]; exact (f_up_n (Ne.symm ne_a_q_19)).trans fh_47_q_19
  have fh_48_q_22 : h_48 q_22 = some (iar (g.2.1 1) 2 (fun _ => 0)) := by rw [eh_48]; exact (f_up_n (Ne.symm ne_a_q_22)).trans fh_47_q_22
  have fh_48_q_25 : h_48 q_25 = some (iar (g.2.1 0) 60 (fun _ => 0)) := by rw [eh_48]; exact (f_up_n (Ne.symm ne_a_q_25)).trans fh_47_q_25
  have fh_48_q_28 : h_48 q_28 = some (iar (g.2.1 0) 60 (fun _ => 0)) := by rw [eh_48]; exact (f_up_n (Ne.symm ne_a_q_28)).trans fh_47_q_28
  have fh_48_q_31 : h_48 q_31 = some (iar (g.2.1 0) 60 (fun _ => 0)) := by rw [eh_48]; exact (f_up_n (Ne.symm ne_a_q_31)).trans fh_47_q_31
  have fh_48_q_34 : h_48 q_34 = some (iar (g.2.1 0) 60 (fun _ => 0)) := by rw [eh_48]; exact (f_up_n (Ne.symm ne_a_q_34)).trans fh_47_q_34
  have fh_48_q_37 : h_48 q_37 = some (iar (g.2.1 0) 60 (fun _ => 0)) := by rw [eh_48]; exact (f_up_n (Ne.symm ne_a_q_37)).trans fh_47_q_37
  have fh_48_q_40 : h_48 q_40 = some (iar (g.2.1 0) 60 (fun _ => 0)) := by rw [eh_48]; exact (f_up_n (Ne.symm ne_a_q_40)).trans fh_47_q_40
  have fh_48_q_43 : h_48 q_43 = some (iar (g.2.1 0) 60 (fun _ => 0)) := by rw [eh_48]; exact (f_up_n (Ne.symm ne_a_q_43)).trans fh_47_q_43
  have fh_48_q_46 : h_48 q_46 = some (iar (g.2.1 0) 60 (fun _ => 0)) := by rw [eh_48]; exact (f_up_n (Ne.symm ne_a_q_46)).trans fh_47_q_46
  have fh_48_a : h_48 a = some (.inr (8, [.int (iI (0)), .ref q_1, .ref q_4, .ref q_7, .ref q_10, .int (iI (0)), .ref q_13, .ref q_16, .ref q_19, .ref q_22, .ref q_25, .ref q_28, .ref q_31, .ref q_34, .ref q_37, .ref q_40, .ref q_43, .int (iI (0)), .int (iI (0)), .ref q_46, .null])) := by rw [eh_48]; exact f_up_s _ _ _
  have frh_48 : ∀ z x, z ≠ a → h z = some x → h_48 z = some x := fun z x hz hx => by rw [eh_48, f_up_n hz]; exact frh_47 z x hz hx
  have ndh_48 : ([q_46, q_43, q_40, q_37, q_34, q_31, q_28, q_25, q_22, q_19, q_16, q_13, q_10, q_7, q_4, q_1, a] : List Nat).Nodup ∧ ∀ x ∈ ([q_46, q_43, q_40, q_37, q_34, q_31, q_28, q_25, q_22, q_19, q_16, q_13, q_10, q_7, q_4, q_1, a] : List Nat), h_48 x ≠ none := ⟨ndh_47.1, fun x hx => by rw [eh_48]; exact f_up_some (ndh_47.2 x hx)⟩
  refine v_putF F (pc := 125) fp_X5_56_8 dX5_init_125 fh_47_a hinit rfl rfl (Nat.le_of_ble_eq_true rfl) (h' := h_48) eh_48.symm ?_
  refine v_aload_n F (pc := 128) dX5_init_128 rfl ?_
  refine v_bipush F (pc := 129) dX5_init_129 (by decide) ?_
  refine v_newi F (pc := 131) (n := 60) dX5_init_131 (by decide) (Nat.le_of_ble_eq_true rfl) (Nat.le_of_ble_eq_true rfl) (fun q_49 nq_49 => ?_)
  have ne_a_q_49 : a ≠ q_49 := fun z_ => by have h_ := fh_48_a; rw [z_, nq_49] at h_; cases h_
  have ne_q_1_q_49 : q_1 ≠ q_49 := fun z_ => by have h_ := fh_48_q_1; rw [z_, nq_49] at h_; cases h_
  have ne_q_4_q_49 : q_4 ≠ q_49 := fun z_ => by have h_ := fh_48_q_4; rw [z_, nq_49] at h_; cases h_
  have ne_q_7_q_49 : q_7 ≠ q_49 := fun z_ => by have h_ := fh_48_q_7; rw [z_, nq_49] at h_; cases h_
  have ne_q_10_q_49 : q_10 ≠ q_49 := fun z_ => by have h_ := fh_48_q_10; rw [z_, nq_49] at h_; cases h_
  have ne_q_13_q_49 : q_13 ≠ q_49 := fun z_ => by have h_ := fh_48_q_13; rw [z_, nq_49] at h_; cases h_
  have ne_q_16_q_49 : q_16 ≠ q_49 := fun z_ => by have h_ := fh_48_q_16; rw [z_, nq_49] at h_; cases h_
  have ne_q_19_q_49 : q_19 ≠ q_49 := fun z_ => by have h_ := fh_48_q_19; rw [z_, nq_49] at h_; cases h_
  have ne_q_22_q_49 : q_22 ≠ q_49 := fun z_ => by have h_ := fh_48_q_22; rw [z_, nq_49] at h_; cases h_
  have ne_q_25_q_49 : q_25 ≠ q_49 := fun z_ => by have h_ := fh_48_q_25; rw [z_, nq_49] at h_; cases h_
  have ne_q_28_q_49 : q_28 ≠ q_49 := fun z_ => by have h_ := fh_48_q_28; rw [z_, nq_49] at h_; cases h_
  have ne_q_31_q_49 : q_31 ≠ q_49 := fun z_ => by have h_ := fh_48_q_31; rw [z_, nq_49] at h_; cases h_
  have ne_q_34_q_49 : q_34 ≠ q_49 := fun z_ => by have h_ := fh_48_q_34; rw [z_, nq_49] at h_; cases h_
  have ne_q_37_q_49 : q_37 ≠ q_49 := fun z_ => by have h_ := fh_48_q_37; rw [z_, nq_49] at h_; cases h_
  have ne_q_40_q_49 : q_40 ≠ q_49 := fun z_ => by have h_ := fh_48_q_40; rw [z_, nq_49] at h_; cases h_
  have ne_q_43_q_49 : q_43 ≠ q_49 := fun z_ => by have h_ := fh_48_q_43; rw [z_, nq_49] at h_; cases h_
  have ne_q_46_q_49 : q_46 ≠ q_49 := fun z_ => by have h_ := fh_48_q_46; rw [z_, nq_49] at h_; cases h_
  obtain ⟨h_50, eh_50⟩ : ∃ z_, z_ = f_up h_48 q_49 (iar (g.2.1 0) 60 (fun _ => 0)) := ⟨_, rfl⟩
  rw [← eh_50]
  have fh_50_a : h_50 a = some (.inr (8, [.int (iI (0)), .ref q_1, .ref q_4, .ref q_7, .ref q_10, .int (iI (0)), .ref q_13, .ref q_16, .ref q_19, .ref q_22, .ref q_25, .ref q_28, .ref q_31, .ref q_34, .ref q_37, .ref q_40, .ref q_43, .int (iI (0)), .int (iI (0)), .ref q_46, .null])) := by rw [eh_50]; exact (f_up_n ne_a_q_49).trans fh_48_a
  have fh_50_q_1 : h_50 q_1 = some (iar (g.2.1 0) 8 (fun _ => 0)) := by rw [eh_50]; exact (f_up_n ne_q_1_q_49).trans fh_48_q_1
  have fh_50_q_4 : h_50 q_4 = some (iar (g.2.1 0) 8 (fun _ => 0)) := by rw [eh_50]; exact (f_up_n ne_q_4_q_49).trans fh_48_q_4
  have fh_50_q_7 : h_50 q_7 = some (iar (g.2.1 0) 8 (fun _ => 0)) := by rw [eh_50]; exact (f_up_n ne_q_7_q_49).trans fh_48_q_7
  have fh_50_q_10 : h_50 q_10 = some (iar (g.2.1 0) 8 (fun _ => 0)) := by rw [eh_50]; exact (f_up_n ne_q_10_q_49).trans fh_48_q_10
  have fh_50_q_13 : h_50 q_13 = some (iar (g.2.1 0) 4 (fun _ => 0)) := by rw [eh_50]; exact (f_up_n ne_q_13_q_49).trans fh_48_q_13
  have fh_50_q_16 : h_50 q_16 = some (iar (g.2.1 0) 4 (fun _ => 0)) := by rw [eh_50]; exact (f_up_n ne_q_16_q_49).trans fh_48_q_16
  have fh_50_q_19 : h_50 q_19 = some (iar (g.2.1 0) 2 (fun _ => 0)) := by rw [eh_50]; exact (f_up_n ne_q_19_q_49).trans fh_48_q_19
  have fh_50_q_22 : h_50 q_22 = some (iar (g.2.1 1) 2 (fun _ => 0)) := by rw [eh_50]; exact (f_up_n ne_q_22_q_49).trans fh_48_q_22
  have fh_50_q_25 : h_50 q_25 = some (iar (g.2.1 0) 60 (fun _ => 0)) := by rw [eh_50]; exact (f_up_n ne_q_25_q_49).trans fh_48_q_25
  have fh_50_q_28 : h_50 q_28 = some (iar (g.2.1 0) 60 (fun _ => 0)) := by rw [eh_50]; exact (f_up_n ne_q_28_q_49).trans fh_48_q_28
  have fh_50_q_31 : h_50 q_31 = some (iar (g.2.1 0) 60 (fun _ => 0)) := by rw [eh_50]; exact (f_up_n ne_q_31_q_49).trans fh_48_q_31
  have fh_50_q_34 : h_50 q_34 = some (iar (g.2.1 0) 60 (fun _ => 0)) := by rw [eh_50]; exact (f_up_n ne_q_34_q_49).trans fh_48_q_34
  have fh_50_q_37 : h_50 q_37 = some (iar (g.2.1 0) 60 (fun _ => 0)) := by rw [eh_50]; exact (f_up_n ne_q_37_q_49).trans fh_48_q_37
  have fh_50_q_40 : h_50 q_40 = some (iar (g.2.1 0) 60 (fun _ => 0)) := by rw [eh_50]; exact (f_up_n ne_q_40_q_49).trans fh_48_q_40
  have fh_50_q_43 : h_50 q_43 = some (iar (g.2.1 0) 60 (fun _ => 0)) := by rw [eh_50]; exact (f_up_n ne_q_43_q_49).trans fh_48_q_43
  have fh_50_q_46 : h_50 q_46 = some (iar (g.2.1 0) 60 (fun _ => 0)) := by rw [eh_50]; exact (f_up_n ne_q_46_q_49).trans fh_48_q_46
  have fh_50_q_49 : h_50 q_49 = some (iar (g.2.1 0) 60 (fun _ => 0)) := by rw [eh_50]; exact f_up_s _ _ _
  have frh_50 : ∀ z x, z ≠ a → h z = some x → h_50 z = some x := fun z x hz hx => by rw [eh_50, f_up_n (fun y => by have h_ := frh_48 z x hz hx; rw [y, nq_49] at h_; cases h_)]; exact frh_48 z x hz hx
  have nb_q_49 : h q_49 = none := nb_of frh_48 (Ne.symm ne_a_q_49) nq_49
  have ndh_50 := al_cons (h' := h_50) ndh_48.1 ndh_48.2 nq_49 (by rw [fh_50_q_49]; exact fun z => by cases z) (fun x _ hx => by rw [eh_50]; exact f_up_some hx)
  obtain ⟨h_51, eh_51⟩ : ∃ z_, z_ = f_up h_50 a (.inr (8, [.int (iI (0)), .ref q_1, .ref q_4, .ref q_7, .ref q_10, .int (iI (0)), .ref q_13, .ref q_16, .ref q_19, .ref q_22, .ref q_25, .ref q_28, .ref q_31, .ref q_34, .ref q_37, .ref q_40, .ref q_43, .int (iI (0)), .int (iI (0)), .ref q_46, .ref q_49])) := ⟨_, rfl⟩
  have fh_51_q_1 : h_51 q_1 = some (iar (g.2.1 0) 8 (fun _ => 0)) := by rw [eh_51]; exact (f_up_n (Ne.symm ne_a_q_1)).trans fh_50_q_1
  have fh_51_q_4 : h_51 q_4 = some (iar (g.2.1 0) 8 (fun _ => 0)) := by rw [eh_51]; exact (f_up_n (Ne.symm ne_a_q_4)).trans fh_50_q_4
  have fh_51_q_7 : h_51 q_7 = some (iar (g.2.1 0) 8 (fun _ => 0)) := by rw [eh_51]; exact (f_up_n (Ne.symm ne_a_q_7)).trans fh_50_q_7
  have fh_51_q_10 : h_51 q_10 = some (iar (g.2.1 0) 8 (fun _ => 0)) := by rw [eh_51]; exact (f_up_n (Ne.symm ne_a_q_10)).trans fh_50_q_10
  have fh_51_q_13 : h_51 q_13 = some (iar (g.2.1 0) 4 (fun _ => 0)) := by rw [eh_51]; exact (f_up_n (Ne.symm ne_a_q_13)).trans fh_50_q_13
  have fh_51_q_16 : h_51 q_16 = some (iar (g.2.1 0) 4 (fun _ => 0)) := by rw [eh_51]; exact (f_up_n (Ne.symm ne_a_q_16)).trans fh_50_q_16
  have fh_51_q_19 : h_51 q_19 = some (iar (g.2.1 0) 2 (fun _ => 0)) := by rw [eh_51]; exact (f_up_n (Ne.symm ne_a_q_19)).trans fh_50_q_19
  have fh_51_q_22 : h_51 q_22 = some (iar (g.2.1 1) 2 (fun _ => 0)) := by rw [eh_51]; exact (f_up_n (Ne.symm ne_a_q_22)).trans fh_50_q_22
  have fh_51_q_25 : h_51 q_25 = some (iar (g.2.1 0) 60 (fun _ => 0)) := by rw [eh_51]; exact (f_up_n (Ne.symm ne_a_q_25)).trans fh_50_q_25
  have fh_51_q_28 : h_51 q_28 = some (iar (g.2.1 0) 60 (fun _ => 0)) := by rw [eh_51]; exact (f_up_n (Ne.symm ne_a_q_28)).trans fh_50_q_28
  have fh_51_q_31 : h_51 q_31 = some (iar (g.2.1 0) 60 (fun _ => 0)) := by rw [eh_51]; exact (f_up_n (Ne.symm ne_a_q_31)).trans fh_50_q_31
  have fh_51_q_34 : h_51 q_34 = some (iar (g.2.1 0) 60 (fun _ => 0)) := by rw [eh_51]; exact (f_up_n (Ne.symm ne_a_q_34)).trans fh_50_q_34
  have fh_51_q_37 : h_51 q_37 = some (iar (g.2.1 0) 60 (fun _ => 0)) := by rw [eh_51]; exact (f_up_n (Ne.symm ne_a_q_37)).trans fh_50_q_37
  have fh_51_q_40 : h_51 q_40 = some (iar (g.2.1 0) 60 (fun _ => 0)) := by rw [eh_51]; exact (f_up_n (Ne.symm ne_a_q_40)).trans fh_50_q_40
  have fh_51_q_43 : h_51 q_43 = some (iar (g.2.1 0) 60 (fun _ => 0)) := by rw [eh_51]; exact (f_up_n (Ne.symm ne_a_q_43)).trans fh_50_q_43
  have fh_51_q_46 : h_51 q_46 = some (iar (g.2.1 0) 60 (fun _ => 0)) := by rw [eh_51]; exact (f_up_n (Ne.symm ne_a_q_46)).trans fh_50_q_46
  have fh_51_q_49 : h_51 q_49 = some (iar (g.2.1 0) 60 (fun _ => 0)) := by rw [eh_51]; exact (f_up_n (Ne.symm ne_a_q_49)).trans fh_50_q_49
  have fh_51_a : h_51 a = some (.inr (8, [.int (iI (0)), .ref q_1, .ref q_4, .ref q_7, .ref q_10, .int (iI (0)), .ref q_13, .ref q_16, .ref q_19, .ref q_22, .ref q_25, .ref q_28, .ref q_31, .ref q_34, .ref q_37, .ref q_40, .ref q_43, .int (iI (0)), .int (iI (0)), .ref q_46, .ref q_49])) := by rw [eh_51]; exact f_up_s _ _ _
  have frh_51 : ∀ z x, z ≠ a → h z = some x → h_51 z = some x := fun z x hz hx => by rw [eh_51, f_up_n hz]; exact frh_50 z x hz hx
  have ndh_51 : ([q_49, q_46, q_43, q_40, q_37, q_34, q_31, q_28, q_25, q_22, q_19, q_16, q_13, q_10, q_7, q_4, q_1, a] : List Nat).Nodup ∧ ∀ x ∈ ([q_49, q_46, q_43, q_40, q_37, q_34, q_31, q_28, q_25, q_22, q_19, q_16, q_13, q_10, q_7, q_4, q_1, a] : List Nat), h_51 x ≠ none := ⟨ndh_50.1, fun x hx => by rw [eh_51]; exact f_up_some (ndh_50.2 x hx)⟩
  refine v_putF F (pc := 133) fp_X5_59_8 dX5_init_133 fh_50_a hinit rfl rfl (Nat.le_of_ble_eq_true rfl) (h' := h_51) eh_51.symm ?_
  refine v_iconst F (pc := 136) dX5_init_136 ?_
  refine v_istore_n F (pc := 137) (lo' := [some (.ref a), some (.int (iI (0)))]) dX5_init_137 (Nat.le_of_ble_eq_true rfl) rfl ?_
  refine v_iload_n F (pc := 138) dX5_init_138 rfl ?_
  refine v_iconst F (pc := 139) dX5_init_139 ?_
  refine v_icmp_ge F (pc := 140) (a := 0) (b := 4) 167 dX5_init_140 (by decide) (by omega) (by omega) (fun c_52 => ?_) (fun c_52 => ?_)
  · exact absurd c_52 (by decide)
  · refine v_aload_n F (pc := 143) dX5_init_143 rfl ?_
    refine v_getf F (pc := 144) fd_X5_22_8 (v := .ref q_13) dX5_init_144 fh_51_a rfl ?_
    refine v_iload_n F (pc := 147) dX5_init_147 rfl ?_
    refine v_sipush F (pc := 148) dX5_init_148 (by decide) ?_
    obtain ⟨h_53, eh_53⟩ : ∃ z_, z_ = f_up h_51 q_13 (iar (g.2.1 0) 4 (iup (fun _ => 0) 0 10000)) := ⟨_, rfl⟩
    have fh_53_a : h_53 a = some (.inr (8, [.int (iI (0)), .ref q_1, .ref q_4, .ref q_7, .ref q_10, .int (iI (0)), .ref q_13, .ref q_16, .ref q_19, .ref q_22, .ref q_25, .ref q_28, .ref q_31, .ref q_34, .ref q_37, .ref q_40, .ref q_43, .int (iI (0)), .int (iI (0)), .ref q_46, .ref q_49])) := by rw [eh_53]; exact (f_up_n ne_a_q_13).trans fh_51_a
    have fh_53_q_1 : h_53 q_1 = some (iar (g.2.1 0) 8 (fun _ => 0)) := by rw [eh_53]; exact (f_up_n ne_q_1_q_13).trans fh_51_q_1
    have fh_53_q_4 : h_53 q_4 = some (iar (g.2.1 0) 8 (fun _ => 0)) := by rw [eh_53]; exact (f_up_n ne_q_4_q_13).trans fh_51_q_4
    have fh_53_q_7 : h_53 q_7 = some (iar (g.2.1 0) 8 (fun _ => 0)) := by rw [eh_53]; exact (f_up_n ne_q_7_q_13).trans fh_51_q_7
    have fh_53_q_10 : h_53 q_10 = some (iar (g.2.1 0) 8 (fun _ => 0)) := by rw [eh_53]; exact (f_up_n ne_q_10_q_13).trans fh_51_q_10
    have fh_53_q_16 : h_53 q_16 = some (iar (g.2.1 0) 4 (fun _ => 0)) := by rw [eh_53]; exact (f_up_n (Ne.symm ne_q_13_q_16)).trans fh_51_q_16
    have fh_53_q_19 : h_53 q_19 = some (iar (g.2.1 0) 2 (fun _ => 0)) := by rw [eh_53]; exact (f_up_n (Ne.symm ne_q_13_q_19)).trans fh_51_q_19
    have fh_53_q_22 : h_53 q_22 = some (iar (g.2.1 1) 2 (fun _ => 0)) := by rw [eh_53]; exact (f_up_n (Ne.symm ne_q_13_q_22)).trans fh_51_q_22
    have fh_53_q_25 : h_53 q_25 = some (iar (g.2.1 0) 60 (fun _ => 0)) := by rw [eh_53]; exact (f_up_n (Ne.symm ne_q_13_q_25)).trans fh_51_q_25
    have fh_53_q_28 : h_53 q_28 = some (iar (g.2.1 0) 60 (fun _ => 0)) := by rw [eh_53]; exact (f_up_n (Ne.symm ne_q_13_q_28)).trans fh_51_q_28
    have fh_53_q_31 : h_53 q_31 = some (iar (g.2.1 0) 60 (fun _ => 0)) := by rw [eh_53]; exact (f_up_n (Ne.symm ne_q_13_q_31)).trans fh_51_q_31
    have fh_53_q_34 : h_53 q_34 = some (iar (g.2.1 0) 60 (fun _ => 0)) := by rw [eh_53]; exact (f_up_n (Ne.symm ne_q_13_q_34)).trans fh_51_q_34
    have fh_53_q_37 : h_53 q_37 = some (iar (g.2.1 0) 60 (fun _ => 0)) := by rw [eh_53]; exact (f_up_n (Ne.symm ne_q_13_q_37)).trans fh_51_q_37
    have fh_53_q_40 : h_53 q_40 = some (iar (g.2.1 0) 60 (fun _ => 0)) := by rw [eh_53]; exact (f_up_n (Ne.symm ne_q_13_q_40)).trans fh_51_q_40
    have fh_53_q_43 : h_53 q_43 = some (iar (g.2.1 0) 60 (fun _ => 0)) := by rw [eh_53]; exact (f_up_n (Ne.symm ne_q_13_q_43)).trans fh_51_q_43
    have fh_53_q_46 : h_53 q_46 = some (iar (g.2.1 0) 60 (fun _ => 0)) := by rw [eh_53]; exact (f_up_n (Ne.symm ne_q_13_q_46)).trans fh_51_q_46
    have fh_53_q_49 : h_53 q_49 = some (iar (g.2.1 0) 60 (fun _ => 0)) := by rw [eh_53]; exact (f_up_n (Ne.symm ne_q_13_q_49)).trans fh_51_q_49
    have fh_53_q_13 : h_53 q_13 = some (iar (g.2.1 0) 4 (iup (fun _ => 0) 0 10000)) := by rw [eh_53]; exact f_up_s _ _ _
    have frh_53 : ∀ z x, z ≠ a → h z = some x → h_53 z = some x := fun z x hz hx => by rw [eh_53, f_up_n (fun y => by rw [y, nb_q_13] at hx; cases hx)]; exact frh_51 z x hz hx
    have ndh_53 : ([q_49, q_46, q_43, q_40, q_37, q_34, q_31, q_28, q_25, q_22, q_19, q_16, q_13, q_10, q_7, q_4, q_1, a] : List Nat).Nodup ∧ ∀ x ∈ ([q_49, q_46, q_43, q_40, q_37, q_34, q_31, q_28, q_25, q_22, q_19, q_16, q_13, q_10, q_7, q_4, q_1, a] : List Nat), h_53 x ≠ none := ⟨ndh_51.1, fun x hx => by rw [eh_53]; exact f_up_some (ndh_51.2 x hx)⟩
    refine v_iast F (pc := 151) (n := 4) (f := fun _ => 0) (z := 0) (x := 10000) dX5_init_151 fh_51_q_13 (by omega) (by omega) (h' := h_53) eh_53.symm ?_
    refine v_aload_n F (pc := 152) dX5_init_152 rfl ?_
    refine v_getf F (pc := 153) fd_X5_25_8 (v := .ref q_16) dX5_init_153 fh_53_a rfl ?_
    refine v_iload_n F (pc := 156) dX5_init_156 rfl ?_
    refine v_sipush F (pc := 157) dX5_init_157 (by decide) ?_
    obtain ⟨h_54, eh_54⟩ : ∃ z_, z_ = f_up h_53 q_16 (iar (g.2.1 0) 4 (iup (fun _ => 0) 0 10000)) := ⟨_, rfl⟩
    have fh_54_a : h_54 a = some (.inr (8, [.int (iI (0)), .ref q_1, .ref q_4, .ref q_7, .ref q_10, .int (iI (0)), .ref q_13, .ref q_16, .ref q_19, .ref q_22, .ref q_25, .ref q_28, .ref q_31, .ref q_34, .ref q_37, .ref q_40, .ref q_43, .int (iI (0)), .int (iI (0)), .ref q_46, .ref q_49])) := by rw [eh_54]; exact (f_up_n ne_a_q_16).trans fh_53_a
    have fh_54_q_1 : h_54 q_1 = some (iar (g.2.1 0) 8 (fun _ => 0)) := by rw [eh_54]; exact (f_up_n ne_q_1_q_16).trans fh_53_q_1
    have fh_54_q_4 : h_54 q_4 = some (iar (g.2.1 0) 8 (fun _ => 0)) := by rw [eh_54]; exact (f_up_n ne_q_4_q_16).trans fh_53_q_4
    have fh_54_q_7 : h_54 q_7 = some (iar (g.2.1 0) 8 (fun _ => 0)) := by rw [eh_54]; exact (f_up_n ne_q_7_q_16).trans fh_53_q_7
    have fh_54_q_10 : h_54 q_10 = some (iar (g.2.1 0) 8 (fun _ => 0)) := by rw [eh_54]; exact (f_up_n ne_q_10_q_16).trans fh_53_q_10
    have fh_54_q_13 : h_54 q_13 = some (iar (g.2.1 0) 4 (iup (fun _ => 0) 0 10000)) := by rw [eh_54]; exact (f_up_n ne_q_13_q_16).trans fh_53_q_13
    have fh_54_q_19 : h_54 q_19 = some (iar (g.2.1 0) 2 (fun _ => 0)) := by rw [eh_54]; exact (f_up_n (Ne.symm ne_q_16_q_19)).trans fh_53_q_19
    have fh_54_q_22 : h_54 q_22 = some (iar (g.2.1 1) 2 (fun _ => 0)) := by rw [eh_54]; exact (f_up_n (Ne.symm ne_q_16_q_22)).trans fh_53_q_22
    have fh_54_q_25 : h_54 q_25 = some (iar (g.2.1 0) 60 (fun _ => 0)) := by rw [eh_54]; exact (f_up_n (Ne.symm ne_q_16_q_25)).trans fh_53_q_25
    have fh_54_q_28 : h_54 q_28 = some (iar (g.2.1 0) 60 (fun _ => 0)) := by rw [eh_54]; exact (f_up_n (Ne.symm ne_q_16_q_28)).trans fh_53_q_28
    have fh_54_q_31 : h_54 q_31 = some (iar (g.2.1 0) 60 (fun _ => 0)) := by rw [eh_54]; exact (f_up_n (Ne.symm ne_q_16_q_31)).trans fh_53_q_31
    have fh_54_q_34 : h_54 q_34 = some (iar (g.2.1 0) 60 (fun _ => 0)) := by rw [eh_54]; exact (f_up_n (Ne.symm ne_q_16_q_34)).trans fh_53_q_34
    have fh_54_q_37 : h_54 q_37 = some (iar (g.2.1 0) 60 (fun _ => 0)) := by rw [eh_54]; exact (f_up_n (Ne.symm ne_q_16_q_37)).trans fh_53_q_37
    have fh_54_q_40 : h_54 q_40 = some (iar (g.2.1 0) 60 (fun _ => 0)) := by rw [eh_54]; exact (f_up_n (Ne.symm ne_q_16_q_40)).trans fh_53_q_40
    have fh_54_q_43 : h_54 q_43 = some (iar (g.2.1 0) 60 (fun _ => 0)) := by rw [eh_54]; exact (f_up_n (Ne.symm ne_q_16_q_43)).trans fh_53_q_43
    have fh_54_q_46 : h_54 q_46 = some (iar (g.2.1 0) 60 (fun _ => 0)) := by rw [eh_54]; exact (f_up_n (Ne.symm ne_q_16_q_46)).trans fh_53_q_46
    have fh_54_q_49 : h_54 q_49 = some (iar (g.2.1 0) 60 (fun _ => 0)) := by rw [eh_54]; exact (f_up_n (Ne.symm ne_q_16_q_49)).trans fh_53_q_49
    have fh_54_q_16 : h_54 q_16 = some (iar (g.2.1 0) 4 (iup (fun _ => 0) 0 10000)) := by rw [eh_54]; exact f_up_s _ _ _
    have frh_54 : ∀ z x, z ≠ a → h z = some x → h_54 z = some x := fun z x hz hx => by rw [eh_54, f_up_n (fun y => by rw [y, nb_q_16] at hx; cases hx)]; exact frh_53 z x hz hx
    have ndh_54 : ([q_49, q_46, q_43, q_40, q_37, q_34, q_31, q_28, q_25, q_22, q_19, q_16, q_13, q_10, q_7, q_4, q_1, a] : List Nat).Nodup ∧ ∀ x ∈ ([q_49, q_46, q_43, q_40, q_37, q_34, q_31, q_28, q_25, q_22, q_19, q_16, q_13, q_10, q_7, q_4, q_1, a] : List Nat), h_54 x ≠ none := ⟨ndh_53.1, fun x hx => by rw [eh_54]; exact f_up_some (ndh_53.2 x hx)⟩
    refine v_iast F (pc := 160) (n := 4) (f := fun _ => 0) (z := 0) (x := 10000) dX5_init_160 fh_53_q_16 (by omega) (by omega) (h' := h_54) eh_54.symm ?_
    refine v_iinc F (pc := 161) (lo' := [some (.ref a), some (.int (iI (1)))]) dX5_init_161 rfl (Nat.le_of_ble_eq_true rfl) rfl ?_
    refine v_goto F (pc := 164) 138 dX5_init_164 (by decide) ?_
    refine v_iload_n F (pc := 138) dX5_init_138 rfl ?_
    refine v_iconst F (pc := 139) dX5_init_139 ?_
    refine v_icmp_ge F (pc := 140) (a := 1) (b := 4) 167 dX5_init_140 (by decide) (by omega) (by omega) (fun c_55 => ?_) (fun c_55 => ?_)
    · exact absurd c_55 (by decide)
    · refine v_aload_n F (pc := 143) dX5_init_143 rfl ?_
      refine v_getf F (pc := 144) fd_X5_22_8 (v := .ref q_13) dX5_init_144 fh_54_a rfl ?_
      refine v_iload_n F (pc := 147) dX5_init_147 rfl ?_
      refine v_sipush F (pc := 148) dX5_init_148 (by decide) ?_
      obtain ⟨h_56, eh_56⟩ : ∃ z_, z_ = f_up h_54 q_13 (iar (g.2.1 0) 4 (iup (iup (fun _ => 0) 0 10000) 1 10000)) := ⟨_, rfl⟩
      have fh_56_a : h_56 a = some (.inr (8, [.int (iI (0)), .ref q_1, .ref q_4, .ref q_7, .ref q_10, .int (iI (0)), .ref q_13, .ref q_16, .ref q_19, .ref q_22, .ref q_25, .ref q_28, .ref q_31, .ref q_34, .ref q_37, .ref q_40, .ref q_43, .int (iI (0)), .int (iI (0)), .ref q_46, .ref q_49])) := by rw [eh_56]; exact (f_up_n ne_a_q_13).trans fh_54_a
      have fh_56_q_1 : h_56 q_1 = some (iar (g.2.1 0) 8 (fun _ => 0)) := by rw [eh_56]; exact (f_up_n ne_q_1_q_13).trans fh_54_q_1
      have fh_56_q_4 : h_56 q_4 = some (iar (g.2.1 0) 8 (fun _ => 0)) := by rw [eh_56]; exact (f_up_n ne_q_4_q_13).trans fh_54_q_4
      have fh_56_q_7 : h_56 q_7 = some (iar (g.2.1 0) 8 (fun _ => 0)) := by rw [eh_56]; exact (f_up_n ne_q_7_q_13).trans fh_54_q_7
      have fh_56_q_10 : h_56 q_10 = some (iar (g.2.1 0) 8 (fun _ => 0)) := by rw [eh_56]; exact (f_up_n ne_q_10_q_13).trans fh_54_q_10
      have fh_56_q_16 : h_56 q_16 = some (iar (g.2.1 0) 4 (iup (fun _ => 0) 0 10000)) := by rw [eh_56]; exact (f_up_n (Ne.symm ne_q_13_q_16)).trans fh_54_q_16
      have fh_56_q_19 : h_56 q_19 = some (iar (g.2.1 0) 2 (fun _ => 0)) := by rw [eh_56]; exact (f_up_n (Ne.symm ne_q_13_q_19)).trans fh_54_q_19
      have fh_56_q_22 : h_56 q_22 = some (iar (g.2.1 1) 2 (fun _ => 0)) := by rw [eh_56]; exact (f_up_n (Ne.symm ne_q_13_q_22)).trans fh_54_q_22
      have fh_56_q_25 : h_56 q_25 = some (iar (g.2.1 0) 60 (fun _ => 0)) := by rw [eh_56]; exact (f_up_n (Ne.symm ne_q_13_q_25)).trans fh_54_q_25
      have fh_56_q_28 : h_56 q_28 = some (iar (g.2.1 0) 60 (fun _ => 0)) := by rw [eh_56]; exact (f_up_n (Ne.symm ne_q_13_q_28)).trans fh_54_q_28
      have fh_56_q_31 : h_56 q_31 = some (iar (g.2.1 0) 60 (fun _ => 0)) := by rw [eh_56]; exact (f_up_n (Ne.symm ne_q_13_q_31)).trans fh_54_q_31
      have fh_56_q_34 : h_56 q_34 = some (iar (g.2.1 0) 60 (fun _ => 0)) := by rw [eh_56]; exact (f_up_n (Ne.symm ne_q_13_q_34)).trans fh_54_q_34
      have fh_56_q_37 : h_56 q_37 = some (iar (g.2.1 0) 60 (fun _ => 0)) := by rw [eh_56]; exact (f_up_n (Ne.symm ne_q_13_q_37)).trans fh_54_q_37
      have fh_56_q_40 : h_56 q_40 = some (iar (g.2.1 0) 60 (fun _ => 0)) := by rw [eh_56]; exact (f_up_n (Ne.symm ne_q_13_q_40)).trans fh_54_q_40
      have fh_56_q_43 : h_56 q_43 = some (iar (g.2.1 0) 60 (fun _ => 0)) := by rw [eh_56]; exact (f_up_n (Ne.symm ne_q_13_q_43)).trans fh_54_q_43
      have fh_56_q_46 : h_56 q_46 = some (iar (g.2.1 0) 60 (fun _ => 0)) := by rw [eh_56]; exact (f_up_n (Ne.symm ne_q_13_q_46)).trans fh_54_q_46
      have fh_56_q_49 : h_56 q_49 = some (iar (g.2.1 0) 60 (fun _ => 0)) := by rw [eh_56]; exact (f_up_n (Ne.symm ne_q_13_q_49)).trans fh_54_q_49
      have fh_56_q_13 : h_56 q_13 = some (iar (g.2.1 0) 4 (iup (iup (fun _ => 0) 0 10000) 1 10000)) := by rw [eh_56]; exact f_up_s _ _ _
      have frh_56 : ∀ z x, z ≠ a → h z = some x → h_56 z = some x := fun z x hz hx => by rw [eh_56, f_up_n (fun y => by rw [y, nb_q_13] at hx; cases hx)]; exact frh_54 z x hz hx
      have ndh_56 : ([q_49, q_46, q_43, q_40, q_37, q_34, q_31, q_28, q_25, q_22, q_19, q_16, q_13, q_10, q_7, q_4, q_1, a] : List Nat).Nodup ∧ ∀ x ∈ ([q_49, q_46, q_43, q_40, q_37, q_34, q_31, q_28, q_25, q_22, q_19, q_16, q_13, q_10, q_7, q_4, q_1, a] : List Nat), h_56 x ≠ none := ⟨ndh_54.1, fun x hx => by rw [eh_56]; exact f_up_some (ndh_54.2 x hx)⟩
      refine v_iast F (pc := 151) (n := 4) (f := iup (fun _ => 0) 0 10000) (z := 1) (x := 10000) dX5_init_151 fh_54_q_13 (by omega) (by omega) (h' := h_56) eh_56.symm ?_
      refine v_aload_n F (pc := 152) dX5_init_152 rfl ?_
      refine v_getf F (pc := 153) fd_X5_25_8 (v := .ref q_16) dX5_init_153 fh_56_a rfl ?_
      refine v_iload_n F (pc := 156) dX5_init_156 rfl ?_
      refine v_sipush F (pc := 157) dX5_init_157 (by decide) ?_
      obtain ⟨h_57, eh_57⟩ : ∃ z_, z_ = f_up h_56 q_16 (iar (g.2.1 0) 4 (iup (iup (fun _ => 0) 0 10000) 1 10000)) := ⟨_, rfl⟩
      have fh_57_a : h_57 a = some (.inr (8, [.int (iI (0)), .ref q_1, .ref q_4, .ref q_7, .ref q_10, .int (iI (0)), .ref q_13, .ref q_16, .ref q_19, .ref q_22, .ref q_25, .ref q_28, .ref q_31, .ref q_34, .ref q_37, .ref q_40, .ref q_43, .int (iI (0)), .int (iI (0)), .ref q_46, .ref q_49])) := by rw [eh_57]; exact (f_up_n ne_a_q_16).trans fh_56_a
      have fh_57_q_1 : h_57 q_1 = some (iar (g.2.1 0) 8 (fun _ => 0)) := by rw [eh_57]; exact (f_up_n ne_q_1_q_16).trans fh_56_q_1
      have fh_57_q_4 : h_57 q_4 = some (iar (g.2.1 0) 8 (fun _ => 0)) := by rw [eh_57]; exact (f_up_n ne_q_4_q_16).trans fh_56_q_4
      have fh_57_q_7 : h_57 q_7 = some (iar (g.2.1 0) 8 (fun _ => 0)) := by rw [eh_57]; exact (f_up_n ne_q_7_q_16).trans fh_56_q_7
      have fh_57_q_10 : h_57 q_10 = some (iar (g.2.1 0) 8 (fun _ => 0)) := by rw [eh_57]; exact (f_up_n ne_q_10_q_16).trans fh_56_q_10
      have fh_57_q_13 : h_57 q_13 = some (iar (g.2.1 0) 4 (iup (iup (fun _ => 0) 0 10000) 1 10000)) := by rw [eh_57]; exact (f_up_n ne_q_13_q_16).trans fh_56_q_13
      have fh_57_q_19 : h_57 q_19 = some (iar (g.2.1 0) 2 (fun _ => 0)) := by rw [eh_57]; exact (f_up_n (Ne.symm ne_q_16_q_19)).trans fh_56_q_19
      have fh_57_q_22 : h_57 q_22 = some (iar (g.2.1 1) 2 (fun _ => 0)) := by rw [eh_57]; exact (f_up_n (Ne.symm ne_q_16_q_22)).trans fh_56_q_22
      have fh_57_q_25 : h_57 q_25 = some (iar (g.2.1 0) 60 (fun _ => 0)) := by rw [eh_57]; exact (f_up_n (Ne.symm ne_q_16_q_25)).trans fh_56_q_25
      have fh_57_q_28 : h_57 q_28 = some (iar (g.2.1 0) 60 (fun _ => 0)) := by rw [eh_57]; exact (f_up_n (Ne.symm ne_q_16_q_28)).trans fh_56_q_28
      have fh_57_q_31 : h_57 q_31 = some (iar (g.2.1 0) 60 (fun _ => 0)) := by rw [eh_57]; exact (f_up_n (Ne.symm ne_q_16_q_31)).trans fh_56_q_31
      have fh_57_q_34 : h_57 q_34 = some (iar (g.2.1 0) 60 (fun _ => 0)) := by rw [eh_57]; exact (f_up_n (Ne.symm ne_q_16_q_34)).trans fh_56_q_34
      have fh_57_q_37 : h_57 q_37 = some (iar (g.2.1 0) 60 (fun _ => 0)) := by rw [eh_57]; exact (f_up_n (Ne.symm ne_q_16_q_37)).trans fh_56_q_37
      have fh_57_q_40 : h_57 q_40 = some (iar (g.2.1 0) 60 (fun _ => 0)) := by rw [eh_57]; exact (f_up_n (Ne.symm ne_q_16_q_40)).trans fh_56_q_40
      have fh_57_q_43 : h_57 q_43 = some (iar (g.2.1 0) 60 (fun _ => 0)) := by rw [eh_57]; exact (f_up_n (Ne.symm ne_q_16_q_43)).trans fh_56_q_43
      have fh_57_q_46 : h_57 q_46 = some (iar (g.2.1 0) 60 (fun _ => 0)) := by rw [eh_57]; exact (f_up_n (Ne.symm ne_q_16_q_46)).trans fh_56_q_46
      have fh_57_q_49 : h_57 q_49 = some (iar (g.2.1 0) 60 (fun _ => 0)) := by rw [eh_57]; exact (f_up_n (Ne.symm ne_q_16_q_49)).trans fh_56_q_49
      have fh_57_q_16 : h_57 q_16 = some (iar (g.2.1 0) 4 (iup (iup (fun _ => 0) 0 10000) 1 10000)) := by rw [eh_57]; exact f_up_s _ _ _
      have frh_57 : ∀ z x, z ≠ a → h z = some x → h_57 z = some x := fun z x hz hx => by rw [eh_57, f_up_n (fun y => by rw [y, nb_q_16] at hx; cases hx)]; exact frh_56 z x hz hx
      have ndh_57 : ([q_49, q_46, q_43, q_40, q_37, q_34, q_31, q_28, q_25, q_22, q_19, q_16, q_13, q_10, q_7, q_4, q_1, a] : List Nat).Nodup ∧ ∀ x ∈ ([q_49, q_46, q_43, q_40, q_37, q_34, q_31, q_28, q_25, q_22, q_19, q_16, q_13, q_10, q_7, q_4, q_1, a] : List Nat), h_57 x ≠ none := ⟨ndh_56.1, fun x hx => by rw [eh_57]; exact f_up_some (ndh_56.2 x hx)⟩
      refine v_iast F (pc := 160) (n := 4) (f := iup (fun _ => 0) 0 10000) (z := 1) (x := 10000) dX5_init_160 fh_56_q_16 (by omega) (by omega) (h' := h_57) eh_57.symm ?_
      refine v_iinc F (pc := 161) (lo' := [some (.ref a), some (.int (iI (2)))]) dX5_init_161 rfl (Nat.le_of_ble_eq_true rfl) rfl ?_
      refine v_goto F (pc := 164) 138 dX5_init_164 (by decide) ?_
      refine v_iload_n F (pc := 138) dX5_init_138 rfl ?_
      refine v_iconst F (pc := 139) dX5_init_139 ?_
      refine v_icmp_ge F (pc := 140) (a := 2) (b := 4) 167 dX5_init_140 (by decide) (by omega) (by omega) (fun c_58 => ?_) (fun c_58 => ?_)
      · exact absurd c_58 (by decide)
      · refine v_aload_n F (pc := 143) dX5_init_143 rfl ?_
        refine v_getf F (pc := 144) fd_X5_22_8 (v := .ref q_13) dX5_init_144 fh_57_a rfl ?_
        refine v_iload_n F (pc := 147) dX5_init_147 rfl ?_
        refine v_sipush F (pc := 148) dX5_init_148 (by decide) ?_
        obtain ⟨h_59, eh_59⟩ : ∃ z_, z_ = f_up h_57 q_13 (iar (g.2.1 0) 4 (iup (iup (iup (fun _ => 0) 0 10000) 1 10000) 2 10000)) := ⟨_, rfl⟩
        have fh_59_a : h_59 a = some (.inr (8, [.int (iI (0)), .ref q_1, .ref q_4, .ref q_7, .ref q_10, .int (iI (0)), .ref q_13, .ref q_16, .ref q_19, .ref q_22, .ref q_25, .ref q_28, .ref q_31, .ref q_34, .ref q_37, .ref q_40, .ref q_43, .int (iI (0)), .int (iI (0)), .ref q_46, .ref q_49])) := by rw [eh_59]; exact (f_up_n ne_a_q_13).trans fh_57_a
        have fh_59_q_1 : h_59 q_1 = some (iar (g.2.1 0) 8 (fun _ => 0)) := by rw [eh_59]; exact (f_up_n ne_q_1_q_13).trans fh_57_q_1
        have fh_59_q_4 : h_59 q_4 = some (iar (g.2.1 0) 8 (fun _ => 0)) := by rw [eh_59]; exact (f_up_n ne_q_4_q_13).trans fh_57_q_4
        have fh_59_q_7 : h_59 q_7 = some (iar (g.2.1 0) 8 (fun _ => 0)) := by rw [eh_59]; exact (f_up_n ne_q_7_q_13).trans fh_57_q_7
        have fh_59_q_10 : h_59 q_10 = some (iar (g.2.1 0) 8 (fun _ => 0)) := by rw [eh_59]; exact (f_up_n ne_q_10_q_13).trans fh_57_q_10
        have fh_59_q_16 : h_59 q_16 = some (iar (g.2.1 0) 4 (iup (iup (fun _ => 0) 0 10000) 1 10000)) := by rw [eh_59]; exact (f_up_n (Ne.symm ne_q_13_q_16)).trans fh_57_q_16
        have fh_59_q_19 : h_59 q_19 = some (iar (g.2.1 0) 2 (fun _ => 0)) := by rw [eh_59]; exact (f_up_n (Ne.symm ne_q_13_q_19)).trans fh_57_q_19
        have fh_59_q_22 : h_59 q_22 = some (iar (g.2.1 1) 2 (fun _ => 0)) := by rw [eh_59]; exact (f_up_n (Ne.symm ne_q_13_q_22)).trans fh_57_q_22
        have fh_59_q_25 : h_59 q_25 = some (iar (g.2.1 0) 60 (fun _ => 0)) := by rw [eh_59]; exact (f_up_n (Ne.symm ne_q_13_q_25)).trans fh_57_q_25
        have fh_59_q_28 : h_59 q_28 = some (iar (g.2.1 0) 60 (fun _ => 0)) := by rw [eh_59]; exact (f_up_n (Ne.symm ne_q_13_q_28)).trans fh_57_q_28
        have fh_59_q_31 : h_59 q_31 = some (iar (g.2.1 0) 60 (fun _ => 0)) := by rw [eh_59]; exact (f_up_n (Ne.symm ne_q_13_q_31)).trans fh_57_q_31
        have fh_59_q_34 : h_59 q_34 = some (iar (g.2.1 0) 60 (fun _ => 0)) := by rw [eh_59]; exact (f_up_n (Ne.symm ne_q_13_q_34)).trans fh_57_q_34
        have fh_59_q_37 : h_59 q_37 = some (iar (g.2.1 0) 60 (fun _ => 0)) := by rw [eh_59]; exact (f_up_n (Ne.symm ne_q_13_q_37)).trans fh_57_q_37
        have fh_59_q_40 : h_59 q_40 = some (iar (g.2.1 0) 60 (fun _ => 0)) := by rw [eh_59]; exact (f_up_n (Ne.symm ne_q_13_q_40)).trans fh_57_q_40
        have fh_59_q_43 : h_59 q_43 = some (iar (g.2.1 0) 60 (fun _ => 0)) := by rw [eh_59]; exact (f_up_n (Ne.symm ne_q_13_q_43)).trans fh_57_q_43
        have fh_59_q_46 : h_59 q_46 = some (iar (g.2.1 0) 60 (fun _ => 0)) := by rw [eh_59]; exact (f_up_n (Ne.symm ne_q_13_q_46)).trans fh_57_q_46
        have fh_59_q_49 : h_59 q_49 = some (iar (g.2.1 0) 60 (fun _ => 0)) := by rw [eh_59]; exact (f_up_n (Ne.symm ne_q_13_q_49)).trans fh_57_q_49
        have fh_59_q_13 : h_59 q_13 = some (iar (g.2.1 0) 4 (iup (iup (iup (fun _ => 0) 0 10000) 1 10000) 2 10000)) := by rw [eh_59]; exact f_up_s _ _ _
        have frh_59 : ∀ z x, z ≠ a → h z = some x → h_59 z = some x := fun z x hz hx => by rw [eh_59, f_up_n (fun y => by rw [y, nb_q_13] at hx; cases hx)]; exact frh_57 z x hz hx
        have ndh_59 : ([q_49, q_46, q_43, q_40, q_37, q_34, q_31, q_28, q_25, q_22, q_19, q_16, q_13, q_10, q_7, q_4, q_1, a] : List Nat).Nodup ∧ ∀ x ∈ ([q_49, q_46, q_43, q_40, q_37, q_34, q_31, q_28, q_25, q_22, q_19, q_16, q_13, q_10, q_7, q_4, q_1, a] : List Nat), h_59 x ≠ none := ⟨ndh_57.1, fun x hx => by rw [eh_59]; exact f_up_some (ndh_57.2 x hx)⟩
        refine v_iast F (pc := 151) (n := 4) (f := iup (iup (fun _ => 0) 0 10000) 1 10000) (z := 2) (x := 10000) dX5_init_151 fh_57_q_13 (by omega) (by omega) (h' := h_59) eh_59.symm ?_
        refine v_aload_n F (pc := 152) dX5_init_152 rfl ?_
        refine v_getf F (pc := 153) fd_X5_25_8 (v := .ref q_16) dX5_init_153 fh_59_a rfl ?_
        refine v_iload_n F (pc := 156) dX5_init_156 rfl ?_
        refine v_sipush F (pc := 157) dX5_init_157 (by decide) ?_
        obtain ⟨h_60, eh_60⟩ : ∃ z_, z_ = f_up h_59 q_16 (iar (g.2.1 0) 4 (iup (iup (iup (fun _ => 0) 0 10000) 1 10000) 2 10000)) := ⟨_, rfl⟩
        have fh_60_a : h_60 a = some (.inr (8, [.int (iI (0)), .ref q_1, .ref q_4, .ref q_7, .ref q_10, .int (iI (0)), .ref q_13, .ref q_16, .ref q_19, .ref q_22, .ref q_25, .ref q_28, .ref q_31, .ref q_34, .ref q_37, .ref q_40, .ref q_43, .int (iI (0)), .int (iI (0)), .ref q_46, .ref q_49])) := by rw [eh_60]; exact (f_up_n ne_a_q_16).trans fh_59_a
        have fh_60_q_1 : h_60 q_1 = some (iar (g.2.1 0) 8 (fun _ => 0)) := by rw [eh_60]; exact (f_up_n ne_q_1_q_16).trans fh_59_q_1
        have fh_60_q_4 : h_60 q_4 = some (iar (g.2.1 0) 8 (fun _ => 0)) := by rw [eh_60]; exact (f_up_n ne_q_4_q_16).trans fh_59_q_4
        have fh_60_q_7 : h_60 q_7 = some (iar (g.2.1 0) 8 (fun _ => 0)) := by rw [eh_60]; exact (f_up_n ne_q_7_q_16).trans fh_59_q_7
        have fh_60_q_10 : h_60 q_10 = some (iar (g.2.1 0) 8 (fun _ => 0)) := by rw [eh_60]; exact (f_up_n ne_q_10_q_16).trans fh_59_q_10
        have fh_60_q_13 : h_60 q_13 = some (iar (g.2.1 0) 4 (iup (iup (iup (fun _ => 0) 0 10000) 1 10000) 2 10000)) := by rw [eh_60]; exact (f_up_n ne_q_13_q_16).trans fh_59_q_13
        have fh_60_q_19 : h_60 q_19 = some (iar (g.2.1 0) 2 (fun _ => 0)) := by rw [eh_60]; exact (f_up_n (Ne.symm ne_q_16_q_19)).trans fh_59_q_19
        have fh_60_q_22 : h_60 q_22 = some (iar (g.2.1 1) 2 (fun _ => 0)) := by rw [eh_60]; exact (f_up_n (Ne.symm ne_q_16_q_22)).trans fh_59_q_22
        have fh_60_q_25 : h_60 q_25 = some (iar (g.2.1 0) 60 (fun _ => 0)) := by rw [eh_60]; exact (f_up_n (Ne.symm ne_q_16_q_25)).trans fh_59_q_25
        have fh_60_q_28 : h_60 q_28 = some (iar (g.2.1 0) 60 (fun _ => 0)) := by rw [eh_60]; exact (f_up_n (Ne.symm ne_q_16_q_28)).trans fh_59_q_28
        have fh_60_q_31 : h_60 q_31 = some (iar (g.2.1 0) 60 (fun _ => 0)) := by rw [eh_60]; exact (f_up_n (Ne.symm ne_q_16_q_31)).trans fh_59_q_31
        have fh_60_q_34 : h_60 q_34 = some (iar (g.2.1 0) 60 (fun _ => 0)) := by rw [eh_60]; exact (f_up_n (Ne.symm ne_q_16_q_34)).trans fh_59_q_34
        have fh_60_q_37 : h_60 q_37 = some (iar (g.2.1 0) 60 (fun _ => 0)) := by rw [eh_60]; exact (f_up_n (Ne.symm ne_q_16_q_37)).trans fh_59_q_37
        have fh_60_q_40 : h_60 q_40 = some (iar (g.2.1 0) 60 (fun _ => 0)) := by rw [eh_60]; exact (f_up_n (Ne.symm ne_q_16_q_40)).trans fh_59_q_40
        have fh_60_q_43 : h_60 q_43 = some (iar (g.2.1 0) 60 (fun _ => 0)) := by rw [eh_60]; exact (f_up_n (Ne.symm ne_q_16_q_43)).trans fh_59_q_43
        have fh_60_q_46 : h_60 q_46 = some (iar (g.2.1 0) 60 (fun _ => 0)) := by rw [eh_60]; exact (f_up_n (Ne.symm ne_q_16_q_46)).trans fh_59_q_46
        have fh_60_q_49 : h_60 q_49 = some (iar (g.2.1 0) 60 (fun _ => 0)) := by rw [eh_60]; exact (f_up_n (Ne.symm ne_q_16_q_49)).trans fh_59_q_49
        have fh_60_q_16 : h_60 q_16 = some (iar (g.2.1 0) 4 (iup (iup (iup (fun _ => 0) 0 10000) 1 10000) 2 10000)) := by rw [eh_60]; exact f_up_s _ _ _
        have frh_60 : ∀ z x, z ≠ a → h z = some x → h_60 z = some x := fun z x hz hx => by rw [eh_60, f_up_n (fun y => by rw [y, nb_q_16] at hx; cases hx)]; exact frh_59 z x hz hx
        have ndh_60 : ([q_49, q_46, q_43, q_40, q_37, q_34, q_31, q_28, q_25, q_22, q_19, q_16, q_13, q_10, q_7, q_4, q_1, a] : List Nat).Nodup ∧ ∀ x ∈ ([q_49, q_46, q_43, q_40, q_37, q_34, q_31, q_28, q_25, q_22, q_19, q_16, q_13, q_10, q_7, q_4, q_1, a] : List Nat), h_60 x ≠ none := ⟨ndh_59.1, fun x hx => by rw [eh_60]; exact f_up_some (ndh_59.2 x hx)⟩
        refine v_iast F (pc := 160) (n := 4) (f := iup (iup (fun _ => 0) 0 10000) 1 10000) (z := 2) (x := 10000) dX5_init_160 fh_59_q_16 (by omega) (by omega) (h' := h_60) eh_60.symm ?_
        refine v_iinc F (pc := 161) (lo' := [some (.ref a), some (.int (iI (3)))]) dX5_init_161 rfl (Nat.le_of_ble_eq_true rfl) rfl ?_
        refine v_goto F (pc := 164) 138 dX5_init_164 (by decide) ?_
        refine v_iload_n F (pc := 138) dX5_init_138 rfl ?_
        refine v_iconst F (pc := 139) dX5_init_139 ?_
        refine v_icmp_ge F (pc := 140) (a := 3) (b := 4) 167 dX5_init_140 (by decide) (by omega) (by omega) (fun c_61 => ?_) (fun c_61 => ?_)
        · exact absurd c_61 (by decide)
        · refine v_aload_n F (pc := 143) dX5_init_143 rfl ?_
          refine v_getf F (pc := 144) fd_X5_22_8 (v := .ref q_13) dX5_init_144 fh_60_a rfl ?_
          refine v_iload_n F (pc := 147) dX5_init_147 rfl ?_
          refine v_sipush F (pc := 148) dX5_init_148 (by decide) ?_
          obtain ⟨h_62, eh_62⟩ : ∃ z_, z_ = f_up h_60 q_13 (iar (g.2.1 0) 4 (iup (iup (iup (iup (fun _ => 0) 0 10000) 1 10000) 2 10000) 3 10000)) := ⟨_, rfl⟩
          have fh_62_a : h_62 a = some (.inr (8, [.int (iI (0)), .ref q_1, .ref q_4, .ref q_7, .ref q_10, .int (iI (0)), .ref q_13, .ref q_16, .ref q_19, .ref q_22, .ref q_25, .ref q_28, .ref q_31, .ref q_34, .ref q_37, .ref q_40, .ref q_43, .int (iI (0)), .int (iI (0)), .ref q_46, .ref q_49])) := by rw [eh_62]; exact (f_up_n ne_a_q_13).trans fh_60_a
          have fh_62_q_1 : h_62 q_1 = some (iar (g.2.1 0) 8 (fun _ => 0)) := by rw [eh_62]; exact (f_up_n ne_q_1_q_13).trans fh_60_q_1
          have fh_62_q_4 : h_62 q_4 = some (iar (g.2.1 0) 8 (fun _ => 0)) := by rw [eh_62]; exact (f_up_n ne_q_4_q_13).trans fh_60_q_4
          have fh_62_q_7 : h_62 q_7 = some (iar (g.2.1 0) 8 (fun _ => 0)) := by rw [eh_62]; exact (f_up_n ne_q_7_q_13).trans fh_60_q_7
          have fh_62_q_10 : h_62 q_10 = some (iar (g.2.1 0) 8 (fun _ => 0)) := by rw [eh_62]; exact (f_up_n ne_q_10_q_13).trans fh_60_q_10
          have fh_62_q_16 : h_62 q_16 = some (iar (g.2.1 0) 4 (iup (iup (iup (fun _ => 0) 0 10000) 1 10000) 2 10000)) := by rw [eh_62]; exact (f_up_n (Ne.symm ne_q_13_q_16)).trans fh_60_q_16
          have fh_62_q_19 : h_62 q_19 = some (iar (g.2.1 0) 2 (fun _ => 0)) := by rw [eh_62]; exact (f_up_n (Ne.symm ne_q_13_q_19)).trans fh_60_q_19
          have fh_62_q_22 : h_62 q_22 = some (iar (g.2.1 1) 2 (fun _ => 0)) := by rw [eh_62]; exact (f_up_n (Ne.symm ne_q_13_q_22)).trans fh_60_q_22
          have fh_62_q_25 : h_62 q_25 = some (iar (g.2.1 0) 60 (fun _ => 0)) := by rw [eh_62]; exact (f_up_n (Ne.symm ne_q_13_q_25)).trans fh_60_q_25
          have fh_62_q_28 : h_62 q_28 = some (iar (g.2.1 0) 60 (fun _ => 0)) := by rw [eh_62]; exact (f_up_n (Ne.symm ne_q_13_q_28)).trans fh_60_q_28
          have fh_62_q_31 : h_62 q_31 = some (iar (g.2.1 0) 60 (fun _ => 0)) := by rw [eh_62]; exact (f_up_n (Ne.symm ne_q_13_q_31)).trans fh_60_q_31
          have fh_62_q_34 : h_62 q_34 = some (iar (g.2.1 0) 60 (fun _ => 0)) := by rw [eh_62]; exact (f_up_n (Ne.symm ne_q_13_q_34)).trans fh_60_q_34
          have fh_62_q_37 : h_62 q_37 = some (iar (g.2.1 0) 60 (fun _ => 0)) := by rw [eh_62]; exact (f_up_n (Ne.symm ne_q_13_q_37)).trans fh_60_q_37
          have fh_62_q_40 : h_62 q_40 = some (iar (g.2.1 0) 60 (fun _ => 0)) := by rw [eh_62]; exact (f_up_n (Ne.symm ne_q_13_q_40)).trans fh_60_q_40
          have fh_62_q_43 : h_62 q_43 = some (iar (g.2.1 0) 60 (fun _ => 0)) := by rw [eh_62]; exact (f_up_n (Ne.symm ne_q_13_q_43)).trans fh_60_q_43
          have fh_62_q_46 : h_62 q_46 = some (iar (g.2.1 0) 60 (fun _ => 0)) := by rw [eh_62]; exact (f_up_n (Ne.symm ne_q_13_q_46)).trans fh_60_q_46
          have fh_62_q_49 : h_62 q_49 = some (iar (g.2.1 0) 60 (fun _ => 0)) := by rw [eh_62]; exact (f_up_n (Ne.symm ne_q_13_q_49)).trans fh_60_q_49
          have fh_62_q_13 : h_62 q_13 = some (iar (g.2.1 0) 4 (iup (iup (iup (iup (fun _ => 0) 0 10000) 1 10000) 2 10000) 3 10000)) := by rw [eh_62]; exact f_up_s _ _ _
          have frh_62 : ∀ z x, z ≠ a → h z = some x → h_62 z = some x := fun z x hz hx => by rw [eh_62, f_up_n (fun y => by rw [y, nb_q_13] at hx; cases hx)]; exact frh_60 z x hz hx
          have ndh_62 : ([q_49, q_46, q_43, q_40, q_37, q_34, q_31, q_28, q_25, q_22, q_19, q_16, q_13, q_10, q_7, q_4, q_1, a] : List Nat).Nodup ∧ ∀ x ∈ ([q_49, q_46, q_43, q_40, q_37, q_34, q_31, q_28, q_25, q_22, q_19, q_16, q_13, q_10, q_7, q_4, q_1, a] : List Nat), h_62 x ≠ none := ⟨ndh_60.1, fun x hx => by rw [eh_62]; exact f_up_some (ndh_60.2 x hx)⟩
          refine v_iast F (pc := 151) (n := 4) (f := iup (iup (iup (fun _ => 0) 0 10000) 1 10000) 2 10000) (z := 3) (x := 10000) dX5_init_151 fh_60_q_13 (by omega) (by omega) (h' := h_62) eh_62.symm ?_
          refine v_aload_n F (pc := 152) dX5_init_152 rfl ?_
          refine v_getf F (pc := 153) fd_X5_25_8 (v := .ref q_16) dX5_init_153 fh_62_a rfl ?_
          refine v_iload_n F (pc := 156) dX5_init_156 rfl ?_
          refine v_sipush F (pc := 157) dX5_init_157 (by decide) ?_
          obtain ⟨h_63, eh_63⟩ : ∃ z_, z_ = f_up h_62 q_16 (iar (g.2.1 0) 4 (iup (iup (iup (iup (fun _ => 0) 0 10000) 1 10000) 2 10000) 3 10000)) := ⟨_, rfl⟩
          have fh_63_a : h_63 a = some (.inr (8, [.int (iI (0)), .ref q_1, .ref q_4, .ref q_7, .ref q_10, .int (iI (0)), .ref q_13, .ref q_16, .ref q_19, .ref q_22, .ref q_25, .ref q_28, .ref q_31, .ref q_34, .ref q_37, .ref q_40, .ref q_43, .int (iI (0)), .int (iI (0)), .ref q_46, .ref q_49])) := by rw [eh_63]; exact (f_up_n ne_a_q_16).trans fh_62_a
          have fh_63_q_1 : h_63 q_1 = some (iar (g.2.1 0) 8 (fun _ => 0)) := by rw [eh_63]; exact (f_up_n ne_q_1_q_16).trans fh_62_q_1
          have fh_63_q_4 : h_63 q_4 = some (iar (g.2.1 0) 8 (fun _ => 0)) := by rw [eh_63]; exact (f_up_n ne_q_4_q_16).trans fh_62_q_4
          have fh_63_q_7 : h_63 q_7 = some (iar (g.2.1 0) 8 (fun _ => 0)) := by rw [eh_63]; exact (f_up_n ne_q_7_q_16).trans fh_62_q_7
          have fh_63_q_10 : h_63 q_10 = some (iar (g.2.1 0) 8 (fun _ => 0)) := by rw [eh_63]; exact (f_up_n ne_q_10_q_16).trans fh_62_q_10
          have fh_63_q_13 : h_63 q_13 = some (iar (g.2.1 0) 4 (iup (iup (iup (iup (fun _ => 0) 0 10000) 1 10000) 2 10000) 3 10000)) := by rw [eh_63]; exact (f_up_n ne_q_13_q_16).trans fh_62_q_13
          have fh_63_q_19 : h_63 q_19 = some (iar (g.2.1 0) 2 (fun _ => 0)) := by rw [eh_63]; exact (f_up_n (Ne.symm ne_q_16_q_19)).trans fh_62_q_19
          have fh_63_q_22 : h_63 q_22 = some (iar (g.2.1 1) 2 (fun _ => 0)) := by rw [eh_63]; exact (f_up_n (Ne.symm ne_q_16_q_22)).trans fh_62_q_22
          have fh_63_q_25 : h_63 q_25 = some (iar (g.2.1 0) 60 (fun _ => 0)) := by rw [eh_63]; exact (f_up_n (Ne.symm ne_q_16_q_25)).trans fh_62_q_25
          have fh_63_q_28 : h_63 q_28 = some (iar (g.2.1 0) 60 (fun _ => 0)) := by rw [eh_63]; exact (f_up_n (Ne.symm ne_q_16_q_28)).trans fh_62_q_28
          have fh_63_q_31 : h_63 q_31 = some (iar (g.2.1 0) 60 (fun _ => 0)) := by rw [eh_63]; exact (f_up_n (Ne.symm ne_q_16_q_31)).trans fh_62_q_31
          have fh_63_q_34 : h_63 q_34 = some (iar (g.2.1 0) 60 (fun _ => 0)) := by rw [eh_63]; exact (f_up_n (Ne.symm ne_q_16_q_34)).trans fh_62_q_34
          have fh_63_q_37 : h_63 q_37 = some (iar (g.2.1 0) 60 (fun _ => 0)) := by rw [eh_63]; exact (f_up_n (Ne.symm ne_q_16_q_37)).trans fh_62_q_37
          have fh_63_q_40 : h_63 q_40 = some (iar (g.2.1 0) 60 (fun _ => 0)) := by rw [eh_63]; exact (f_up_n (Ne.symm ne_q_16_q_40)).trans fh_62_q_40
          have fh_63_q_43 : h_63 q_43 = some (iar (g.2.1 0) 60 (fun _ => 0)) := by rw [eh_63]; exact (f_up_n (Ne.symm ne_q_16_q_43)).trans fh_62_q_43
          have fh_63_q_46 : h_63 q_46 = some (iar (g.2.1 0) 60 (fun _ => 0)) := by rw [eh_63]; exact (f_up_n (Ne.symm ne_q_16_q_46)).trans fh_62_q_46
          have fh_63_q_49 : h_63 q_49 = some (iar (g.2.1 0) 60 (fun _ => 0)) := by rw [eh_63]; exact (f_up_n (Ne.symm ne_q_16_q_49)).trans fh_62_q_49
          have fh_63_q_16 : h_63 q_16 = some (iar (g.2.1 0) 4 (iup (iup (iup (iup (fun _ => 0) 0 10000) 1 10000) 2 10000) 3 10000)) := by rw [eh_63]; exact f_up_s _ _ _
          have frh_63 : ∀ z x, z ≠ a → h z = some x → h_63 z = some x := fun z x hz hx => by rw [eh_63, f_up_n (fun y => by rw [y, nb_q_16] at hx; cases hx)]; exact frh_62 z x hz hx
          have ndh_63 : ([q_49, q_46, q_43, q_40, q_37, q_34, q_31, q_28, q_25, q_22, q_19, q_16, q_13, q_10, q_7, q_4, q_1, a] : List Nat).Nodup ∧ ∀ x ∈ ([q_49, q_46, q_43, q_40, q_37, q_34, q_31, q_28, q_25, q_22, q_19, q_16, q_13, q_10, q_7, q_4, q_1, a] : List Nat), h_63 x ≠ none := ⟨ndh_62.1, fun x hx => by rw [eh_63]; exact f_up_some (ndh_62.2 x hx)⟩
          refine v_iast F (pc := 160) (n := 4) (f := iup (iup (iup (fun _ => 0) 0 10000) 1 10000) 2 10000) (z := 3) (x := 10000) dX5_init_160 fh_62_q_16 (by omega) (by omega) (h' := h_63) eh_63.symm ?_
          refine v_iinc F (pc := 161) (lo' := [some (.ref a), some (.int (iI (4)))]) dX5_init_161 rfl (Nat.le_of_ble_eq_true rfl) rfl ?_
          refine v_goto F (pc := 164) 138 dX5_init_164 (by decide) ?_
          refine v_iload_n F (pc := 138) dX5_init_138 rfl ?_
          refine v_iconst F (pc := 139) dX5_init_139 ?_
          refine v_icmp_ge F (pc := 140) (a := 4) (b := 4) 167 dX5_init_140 (by decide) (by omega) (by omega) (fun c_64 => ?_) (fun c_64 => ?_)
          · refine v_aload_n F (pc := 167) dX5_init_167 rfl ?_
            refine v_getf F (pc := 168) fd_X5_28_8 (v := .ref q_19) dX5_init_168 fh_63_a rfl ?_
            refine v_iconst F (pc := 171) dX5_init_171 ?_
            refine v_sipush F (pc := 172) dX5_init_172 (by decide) ?_
            obtain ⟨h_65, eh_65⟩ : ∃ z_, z_ = f_up h_63 q_19 (iar (g.2.1 0) 2 (iup (fun _ => 0) 0 20000)) := ⟨_, rfl⟩
            have fh_65_a : h_65 a = some (.inr (8, [.int (iI (0)), .ref q_1, .ref q_4, .ref q_7, .ref q_10, .int (iI (0)), .ref q_13, .ref q_16, .ref q_19, .ref q_22, .ref q_25, .ref q_28, .ref q_31, .ref q_34, .ref q_37, .ref q_40, .ref q_43, .int (iI (0)), .int (iI (0)), .ref q_46, .ref q_49])) := by rw [eh_65]; exact (f_up_n ne_a_q_19).trans fh_63_a
            have fh_65_q_1 : h_65 q_1 = some (iar (g.2.1 0) 8 (fun _ => 0)) := by rw [eh_65]; exact (f_up_n ne_q_1_q_19).trans fh_63_q_1
            have fh_65_q_4 : h_65 q_4 = some (iar (g.2.1 0) 8 (fun _ => 0)) := by rw [eh_65]; exact (f_up_n ne_q_4_q_19).trans fh_63_q_4
            have fh_65_q_7 : h_65 q_7 = some (iar (g.2.1 0) 8 (fun _ => 0)) := by rw [eh_65]; exact (f_up_n ne_q_7_q_19).trans fh_63_q_7
            have fh_65_q_10 : h_65 q_10 = some (iar (g.2.1 0) 8 (fun _ => 0)) := by rw [eh_65]; exact (f_up_n ne_q_10_q_19).trans fh_63_q_10
            have fh_65_q_13 : h_65 q_13 = some (iar (g.2.1 0) 4 (iup (iup (iup (iup (fun _ => 0) 0 10000) 1 10000) 2 10000) 3 10000)) := by rw [eh_65]; exact (f_up_n ne_q_13_q_19).trans fh_63_q_13
            have fh_65_q_16 : h_65 q_16 = some (iar (g.2.1 0) 4 (iup (iup (iup (iup (fun _ => 0) 0 10000) 1 10000) 2 10000) 3 10000)) := by rw [eh_65]; exact (f_up_n ne_q_16_q_19).trans fh_63_q_16
            have fh_65_q_22 : h_65 q_22 = some (iar (g.2.1 1) 2 (fun _ => 0)) := by rw [eh_65]; exact (f_up_n (Ne.symm ne_q_19_q_22)).trans fh_63_q_22
            have fh_65_q_25 : h_65 q_25 = some (iar (g.2.1 0) 60 (fun _ => 0)) := by rw [eh_65]; exact (f_up_n (Ne.symm ne_q_19_q_25)).trans fh_63_q_25
            have fh_65_q_28 : h_65 q_28 = some (iar (g.2.1 0) 60 (fun _ => 0)) := by rw [eh_65]; exact (f_up_n (Ne.symm ne_q_19_q_28)).trans fh_63_q_28
            have fh_65_q_31 : h_65 q_31 = some (iar (g.2.1 0) 60 (fun _ => 0)) := by rw [eh_65]; exact (f_up_n (Ne.symm ne_q_19_q_31)).trans fh_63_q_31
            have fh_65_q_34 : h_65 q_34 = some (iar (g.2.1 0) 60 (fun _ => 0)) := by rw [eh_65]; exact (f_up_n (Ne.symm ne_q_19_q_34)).trans fh_63_q_34
            have fh_65_q_37 : h_65 q_37 = some (iar (g.2.1 0) 60 (fun _ => 0)) := by rw [eh_65]; exact (f_up_n (Ne.symm ne_q_19_q_37)).trans fh_63_q_37
            have fh_65_q_40 : h_65 q_40 = some (iar (g.2.1 0) 60 (fun _ => 0)) := by rw [eh_65]; exact (f_up_n (Ne.symm ne_q_19_q_40)).trans fh_63_q_40
            have fh_65_q_43 : h_65 q_43 = some (iar (g.2.1 0) 60 (fun _ => 0)) := by rw [eh_65]; exact (f_up_n (Ne.symm ne_q_19_q_43)).trans fh_63_q_43
            have fh_65_q_46 : h_65 q_46 = some (iar (g.2.1 0) 60 (fun _ => 0)) := by rw [eh_65]; exact (f_up_n (Ne.symm ne_q_19_q_46)).trans fh_63_q_46
            have fh_65_q_49 : h_65 q_49 = some (iar (g.2.1 0) 60 (fun _ => 0)) := by rw [eh_65]; exact (f_up_n (Ne.symm ne_q_19_q_49)).trans fh_63_q_49
            have fh_65_q_19 : h_65 q_19 = some (iar (g.2.1 0) 2 (iup (fun _ => 0) 0 20000)) := by rw [eh_65]; exact f_up_s _ _ _
            have frh_65 : ∀ z x, z ≠ a → h z = some x → h_65 z = some x := fun z x hz hx => by rw [eh_65, f_up_n (fun y => by rw [y, nb_q_19] at hx; cases hx)]; exact frh_63 z x hz hx
            have ndh_65 : ([q_49, q_46, q_43, q_40, q_37, q_34, q_31, q_28, q_25, q_22, q_19, q_16, q_13, q_10, q_7, q_4, q_1, a] : List Nat).Nodup ∧ ∀ x ∈ ([q_49, q_46, q_43, q_40, q_37, q_34, q_31, q_28, q_25, q_22, q_19, q_16, q_13, q_10, q_7, q_4, q_1, a] : List Nat), h_65 x ≠ none := ⟨ndh_63.1, fun x hx => by rw [eh_65]; exact f_up_some (ndh_63.2 x hx)⟩
            refine v_iast F (pc := 175) (n := 2) (f := fun _ => 0) (z := 0) (x := 20000) dX5_init_175 fh_63_q_19 (by omega) (by omega) (h' := h_65) eh_65.symm ?_
            refine v_aload_n F (pc := 176) dX5_init_176 rfl ?_
            refine v_getf F (pc := 177) fd_X5_28_8 (v := .ref q_19) dX5_init_177 fh_65_a rfl ?_
            refine v_iconst F (pc := 180) dX5_init_180 ?_
            refine v_sipush F (pc := 181) dX5_init_181 (by decide) ?_
            obtain ⟨h_66, eh_66⟩ : ∃ z_, z_ = f_up h_65 q_19 (iar (g.2.1 0) 2 (iup (iup (fun _ => 0) 0 20000) 1 20000)) := ⟨_, rfl⟩
            have fh_66_a : h_66 a = some (.inr (8, [.int (iI (0)), .ref q_1, .ref q_4, .ref q_7, .ref q_10, .int (iI (0)), .ref q_13, .ref q_16, .ref q_19, .ref q_22, .ref q_25, .ref q_28, .ref q_31, .ref q_34, .ref q_37, .ref q_40, .ref q_43, .int (iI (0)), .int (iI (0)), .ref q_46, .ref q_49])) := by rw [eh_66]; exact (f_up_n ne_a_q_19).trans fh_65_a
            have fh_66_q_1 : h_66 q_1 = some (iar (g.2.1 0) 8 (fun _ => 0)) := by rw [eh_66]; exact (f_up_n ne_q_1_q_19).trans fh_65_q_1
            have fh_66_q_4 : h_66 q_4 = some (iar (g.2.1 0) 8 (fun _ => 0)) := by rw [eh_66]; exact (f_up_n ne_q_4_q_19).trans fh_65_q_4
            have fh_66_q_7 : h_66 q_7 = some (iar (g.2.1 0) 8 (fun _ => 0)) := by rw [eh_66]; exact (f_up_n ne_q_7_q_19).trans fh_65_q_7
            have fh_66_q_10 : h_66 q_10 = some (iar (g.2.1 0) 8 (fun _ => 0)) := by rw [eh_66]; exact (f_up_n ne_q_10_q_19).trans fh_65_q_10
            have fh_66_q_13 : h_66 q_13 = some (iar (g.2.1 0) 4 (iup (iup (iup (iup (fun _ => 0) 0 10000) 1 10000) 2 10000) 3 10000)) := by rw [eh_66]; exact (f_up_n ne_q_13_q_19).trans fh_65_q_13
            have fh_66_q_16 : h_66 q_16 = some (iar (g.2.1 0) 4 (iup (iup (iup (iup (fun _ => 0) 0 10000) 1 10000) 2 10000) 3 10000)) := by rw [eh_66]; exact (f_up_n ne_q_16_q_19).trans fh_65_q_16
            have fh_66_q_22 : h_66 q_22 = some (iar (g.2.1 1) 2 (fun _ => 0)) := by rw [eh_66]; exact (f_up_n (Ne.symm ne_q_19_q_22)).trans fh_65_q_22
            have fh_66_q_25 : h_66 q_25 = some (iar (g.2.1 0) 60 (fun _ => 0)) := by rw [eh_66]; exact (f_up_n (Ne.symm ne_q_19_q_25)).trans fh_65_q_25
            have fh_66_q_28 : h_66 q_28 = some (iar (g.2.1 0) 60 (fun _ => 0)) := by rw [eh_66]; exact (f_up_n (Ne.symm ne_q_19_q_28)).trans fh_65_q_28
            have fh_66_q_31 : h_66 q_31 = some (iar (g.2.1 0) 60 (fun _ => 0)) := by rw [eh_66]; exact (f_up_n (Ne.symm ne_q_19_q_31)).trans fh_65_q_31
            have fh_66_q_34 : h_66 q_34 = some (iar (g.2.1 0) 60 (fun _ => 0)) := by rw [eh_66]; exact (f_up_n (Ne.symm ne_q_19_q_34)).trans fh_65_q_34
            have fh_66_q_37 : h_66 q_37 = some (iar (g.2.1 0) 60 (fun _ => 0)) := by rw [eh_66]; exact (f_up_n (Ne.symm ne_q_19_q_37)).trans fh_65_q_37
            have fh_66_q_40 : h_66 q_40 = some (iar (g.2.1 0) 60 (fun _ => 0)) := by rw [eh_66]; exact (f_up_n (Ne.symm ne_q_19_q_40)).trans fh_65_q_40
            have fh_66_q_43 : h_66 q_43 = some (iar (g.2.1 0) 60 (fun _ => 0)) := by rw [eh_66]; exact (f_up_n (Ne.symm ne_q_19_q_43)).trans fh_65_q_43
            have fh_66_q_46 : h_66 q_46 = some (iar (g.2.1 0) 60 (fun _ => 0)) := by rw [eh_66]; exact (f_up_n (Ne.symm ne_q_19_q_46)).trans fh_65_q_46
            have fh_66_q_49 : h_66 q_49 = some (iar (g.2.1 0) 60 (fun _ => 0)) := by rw [eh_66]; exact (f_up_n (Ne.symm ne_q_19_q_49)).trans fh_65_q_49
            have fh_66_q_19 : h_66 q_19 = some (iar (g.2.1 0) 2 (iup (iup (fun _ => 0) 0 20000) 1 20000)) := by rw [eh_66]; exact f_up_s _ _ _
            have frh_66 : ∀ z x, z ≠ a → h z = some x → h_66 z = some x := fun z x hz hx => by rw [eh_66, f_up_n (fun y => by rw [y, nb_q_19] at hx; cases hx)]; exact frh_65 z x hz hx
            have ndh_66 : ([q_49, q_46, q_43, q_40, q_37, q_34, q_31, q_28, q_25, q_22, q_19, q_16, q_13, q_10, q_7, q_4, q_1, a] : List Nat).Nodup ∧ ∀ x ∈ ([q_49, q_46, q_43, q_40, q_37, q_34, q_31, q_28, q_25, q_22, q_19, q_16, q_13, q_10, q_7, q_4, q_1, a] : List Nat), h_66 x ≠ none := ⟨ndh_65.1, fun x hx => by rw [eh_66]; exact f_up_some (ndh_65.2 x hx)⟩
            refine v_iast F (pc := 184) (n := 2) (f := iup (fun _ => 0) 0 20000) (z := 1) (x := 20000) dX5_init_184 fh_65_q_19 (by omega) (by omega) (h' := h_66) eh_66.symm ?_
            refine v_vret F (pc := 185) dX5_init_185 rfl (Nat.le_of_ble_eq_true rfl) (Nat.le_of_ble_eq_true rfl) ?_
            have hin : ∀ f ∈ mfs, h_66 (([q_49, q_46, q_43, q_40, q_37, q_34, q_31, q_28, q_25, q_22, q_19, q_16, q_13, q_10, q_7, q_4, q_1, a] : List Nat).getD (17 - mfs.idxOf f) 0) = some (mcell g (fun f => ([q_49, q_46, q_43, q_40, q_37, q_34, q_31, q_28, q_25, q_22, q_19, q_16, q_13, q_10, q_7, q_4, q_1, a] : List Nat).getD (17 - mfs.idxOf f) 0) σ0 f) := by
              intro f hf
              simp only [mfs, List.mem_cons, List.not_mem_nil, or_false] at hf
              rcases hf with rfl | rfl | rfl | rfl | rfl | rfl | rfl | rfl | rfl | rfl | rfl | rfl | rfl | rfl | rfl | rfl | rfl | rfl
              · exact fh_66_a
              · exact fh_66_q_1
              · exact fh_66_q_4
              · exact fh_66_q_7
              · exact fh_66_q_10
              · exact fh_66_q_13
              · exact fh_66_q_16
              · exact fh_66_q_19
              · exact fh_66_q_22
              · exact fh_66_q_25
              · exact fh_66_q_28
              · exact fh_66_q_31
              · exact fh_66_q_34
              · exact fh_66_q_37
              · exact fh_66_q_40
              · exact fh_66_q_43
              · exact fh_66_q_46
              · exact fh_66_q_49
            refine ⟨rfl, fun f => ([q_49, q_46, q_43, q_40, q_37, q_34, q_31, q_28, q_25, q_22, q_19, q_16, q_13, q_10, q_7, q_4, q_1, a] : List Nat).getD (17 - mfs.idxOf f) 0, rfl, ?_, mh_sub hin⟩
            exact mok_of ndh_66.1 rfl
          · exact absurd c_64 (by decide)
