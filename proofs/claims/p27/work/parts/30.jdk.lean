def LA1 (g : gT) (h h' : fH) (a ed : Nat) (mc n : Int) (cap : Nat) (P : (Int → Option Nat) → Prop) : Prop := ∃ r' : Int → Option Nat, h' = f_up (f_up h ed (qar (g.2.1 2) cap r')) a (.inr (2, [.int (iI mc), .ref ed, .int (iI n)])) ∧ P r'

-- J3_checkIndex_8e157
set_option maxRecDepth 100000 in
set_option maxHeartbeats 8000000 in
theorem k_J3_checkIndex_8e157 (l : Launch) (g : gT) {h : fH} (a b : Int) (hab : 0 ≤ a ∧ a < b ∧ b ≤ 2147483647) : CM l g yJ3_checkIndex_8e157 cJ3_checkIndex_8e157 3 (some .int) ({ frames := 1, cells := 0, slots := 0, locals := 20 }) [.int (iI (a)), .int (iI (b)), .null] (h) (pV (some (.int (iI a))) h) (noX) := by
  refine CM.of (lo := [some (.int (iI (a))), some (.int (iI (b))), some (.null)]) (by decide) (Nat.le_of_ble_eq_true rfl) (by simp [Value.category]) rfl ?_
  intro pX eX sX mX bX tX cX AX F htab hmn
  have F : Fx pX l sX mX ([.int (iI (a)), .int (iI (b)), .null] : List Value).toArray tX cX cJ3_checkIndex_8e157 3 (some .int) RJ3 g AX := F
  refine v_iload_n F (pc := 0) dJ3_checkIndex_8e157_0 rfl ?_
  refine v_if_lt F (pc := 1) (a := a) 9 dJ3_checkIndex_8e157_1 (by decide) (by omega) (fun c_1 => ?_) (fun c_1 => ?_)
  · exact absurd c_1 (by omega)
  · refine v_iload_n F (pc := 4) dJ3_checkIndex_8e157_4 rfl ?_
    refine v_iload_n F (pc := 5) dJ3_checkIndex_8e157_5 rfl ?_
    refine v_icmp_lt F (pc := 6) (a := a) (b := b) 16 dJ3_checkIndex_8e157_6 (by decide) (by omega) (by omega) (fun c_2 => ?_) (fun c_2 => ?_)
    · refine v_iload_n F (pc := 16) dJ3_checkIndex_8e157_16 rfl ?_
      refine v_iret F (pc := 17) (z := (iI (a))) dJ3_checkIndex_8e157_17 rfl rfl (Nat.le_of_ble_eq_true rfl) (Nat.le_of_ble_eq_true rfl) ?_
      exact ⟨rfl, rfl⟩
    · exact absurd hab.2.1 c_2
-- J15_checkIndex_7cf53
set_option maxRecDepth 100000 in
set_option maxHeartbeats 8000000 in
theorem k_J15_checkIndex_7cf53 (l : Launch) (g : gT) {h : fH} (a b : Int) (hab : 0 ≤ a ∧ a < b ∧ b ≤ 2147483647) : CM l g yJ15_checkIndex_7cf53 cJ15_checkIndex_7cf53 2 (some .int) ({ frames := 2, cells := 0, slots := 0, locals := 42 }) [.int (iI (a)), .int (iI (b))] (h) (pV (some (.int (iI a))) h) (noX) := by
  refine CM.of (lo := [some (.int (iI (a))), some (.int (iI (b)))]) (by decide) (Nat.le_of_ble_eq_true rfl) (by simp [Value.category]) rfl ?_
  intro pX eX sX mX bX tX cX AX F htab hmn
  have F : Fx pX l sX mX ([.int (iI (a)), .int (iI (b))] : List Value).toArray tX cX cJ15_checkIndex_7cf53 2 (some .int) RJ15 g AX := F
  refine v_iload_n F (pc := 0) dJ15_checkIndex_7cf53_0 rfl ?_
  refine v_iload_n F (pc := 1) dJ15_checkIndex_7cf53_1 rfl ?_
  refine v_null F (pc := 2) dJ15_checkIndex_7cf53_2 ?_
  refine v_callSp F (pc := 3) (As := [.int (iI (a)), .int (iI (b)), .null]) (rest := []) ci_J15_105 ct_J3_checkIndex_8e157 (k_J3_checkIndex_8e157 l g a b (by omega)) dJ15_checkIndex_7cf53_3 rfl rfl (Nat.le_of_ble_eq_true rfl) (Nat.le_of_ble_eq_true rfl) (Nat.le_of_ble_eq_true rfl) (Nat.le_of_ble_eq_true rfl) (Nat.le_of_ble_eq_true rfl) ?_ (fun _ _ z => z.elim)
  refine v_iret F (pc := 6) (z := (iI (a))) dJ15_checkIndex_7cf53_6 rfl rfl (Nat.le_of_ble_eq_true rfl) (Nat.le_of_ble_eq_true rfl) ?_
  exact ⟨rfl, rfl⟩
-- J7_fill_53178
set_option maxRecDepth 100000 in
set_option maxHeartbeats 8000000 in
theorem k_J7_fill_53178 (l : Launch) (g : gT) {h : fH} {a n : Nat} {f : Int → Int} (ha : h a = some (iar (g.2.1 0) n f)) (hn : n ≤ 1000) (v : Int) : CM l g yJ7_fill_53178 cJ7_fill_53178 4 none ({ frames := 1, cells := 0, slots := 0, locals := 20 }) [.ref a, .int (iI (v))] (h) (pV none (f_up h a (iar (g.2.1 0) n (fun j_ => if 0 ≤ j_ ∧ j_ < (n : Int) then v else f j_)))) (noX) := by
  refine CM.of (lo := [some (.ref a), some (.int (iI (v))), none, none]) (by decide) (Nat.le_of_ble_eq_true rfl) (by simp [Value.category]) rfl ?_
  intro pX eX sX mX bX tX cX AX F htab hmn
  have F : Fx pX l sX mX ([.ref a, .int (iI (v))] : List Value).toArray tX cX cJ7_fill_53178 4 none RJ7 g AX := F
  refine v_iconst F (pc := 0) dJ7_fill_53178_0 ?_
  refine v_istore_n F (pc := 1) (lo' := [some (.ref a), some (.int (iI (v))), some (.int (iI (0))), none]) dJ7_fill_53178_1 (Nat.le_of_ble_eq_true rfl) rfl ?_
  refine v_aload_n F (pc := 2) dJ7_fill_53178_2 rfl ?_
  refine v_alen F (pc := 3) (t := 0) dJ7_fill_53178_3 ha rfl ?_
  refine v_istore_n F (pc := 4) (lo' := [some (.ref a), some (.int (iI (v))), some (.int (iI (0))), some (.int (iI ((n : Nat))))]) dJ7_fill_53178_4 (Nat.le_of_ble_eq_true rfl) rfl ?_
  have LP5 : ∀ (N_ : Nat) (k : Int), (0 ≤ k) → (k ≤ n) → n - k.toNat < N_ → VE pX l eX ({ frames := 1, cells := 0, slots := 0, locals := 20 }) sX mX ([.ref a, .int (iI (v))] : List Value).toArray bX tX cX 4 g AX (f_up h a (iar (g.2.1 0) n (fun j_ => if 0 ≤ j_ ∧ j_ < k then v else f j_))) 0 0 5 [some (.ref a), some (.int (iI (v))), some (.int (iI (k))), some (.int (iI ((n : Nat))))] [] (pV none (f_up h a (iar (g.2.1 0) n (fun j_ => if 0 ≤ j_ ∧ j_ < (n : Int) then v else f j_)))) (noX) 0 0 := by
    intro N_
    induction N_ with
    | zero => intro k _ _ hm_; exact absurd hm_ (Nat.not_lt_zero _)
    | succ N_ ih =>
      intro k hk0 hk1 hm_
      refine v_iload_n F (pc := 5) dJ7_fill_53178_5 rfl ?_
      refine v_iload_n F (pc := 6) dJ7_fill_53178_6 rfl ?_
      refine v_icmp_ge F (pc := 7) (a := k) (b := (n : Nat)) 20 dJ7_fill_53178_7 (by decide) (by omega) (by omega) (fun c_1 => ?_) (fun c_1 => ?_)
      · refine v_vret F (pc := 20) dJ7_fill_53178_20 rfl (Nat.le_of_ble_eq_true rfl) (Nat.le_of_ble_eq_true rfl) ?_
        exact ⟨rfl, by rw [show k = (n : Int) from by omega]⟩
      · refine v_aload_n F (pc := 10) dJ7_fill_53178_10 rfl ?_
        refine v_iload_n F (pc := 11) dJ7_fill_53178_11 rfl ?_
        refine v_iload_n F (pc := 12) dJ7_fill_53178_12 rfl ?_
        refine v_iast F (pc := 13) (n := n) (f := fun j_ => if 0 ≤ j_ ∧ j_ < k then v else f j_) (z := k) (x := v) dJ7_fill_53178_13 (f_up_s _ _ _) (by omega) (by omega) (h' := f_up h a (iar (g.2.1 0) n (iup (fun j_ => if 0 ≤ j_ ∧ j_ < k then v else f j_) k v))) (f_up_up _ _ _ _) ?_
        refine v_iinc F (pc := 14) (lo' := [some (.ref a), some (.int (iI (v))), some (.int (iI (k + 1))), some (.int (iI ((n : Nat))))]) dJ7_fill_53178_14 rfl (Nat.le_of_ble_eq_true rfl) rfl ?_
        refine v_goto F (pc := 17) 5 dJ7_fill_53178_17 (by decide) ?_
        rw [show (iup (fun j_ => if 0 ≤ j_ ∧ j_ < k then v else f j_) k v) = (fun j_ => if 0 ≤ j_ ∧ j_ < (k + 1) then v else f j_) from by funext j_; unfold iup; by_cases q1_ : j_ = k <;> by_cases q2_ : 0 ≤ j_ ∧ j_ < k <;> by_cases q3_ : 0 ≤ j_ ∧ j_ < k + 1 <;> simp only [q1_, q2_, q3_, if_true, if_false] <;> first | rfl | omega]
        exact ih (k + 1) (by omega) (by omega) (by omega)
  have e0_ := LP5 (n + 1) 0 (by omega) (by omega) (by omega)
  rw [show (fun j_ => if 0 ≤ j_ ∧ j_ < (0 : Int) then v else f j_) = f from by funext j_; rw [if_neg (by omega)], f_up_id ha] at e0_
  exact e0_
-- Jxa1e45_init_da8c8
set_option maxRecDepth 100000 in
set_option maxHeartbeats 8000000 in
theorem k_Jxa1e45_init_da8c8 (l : Launch) (g : gT) {h : fH} {a : Nat} : CM l g yJxa1e45_init_da8c8 cJxa1e45_init_da8c8 1 none ({ frames := 1, cells := 0, slots := 0, locals := 20 }) [.ref a] (h) (pV none h) (noX) := by
  refine CM.of (lo := [some (.ref a)]) (by decide) (Nat.le_of_ble_eq_true rfl) (by simp [Value.category]) rfl ?_
  intro pX eX sX mX bX tX cX AX F htab hmn
  have F : Fx pX l sX mX ([.ref a] : List Value).toArray tX cX cJxa1e45_init_da8c8 1 none RJxa1e45 g AX := F
  have hinit : tX.name = "<init>" := hmn
  refine v_aload_n F (pc := 0) dJxa1e45_init_da8c8_0 rfl ?_
  refine v_objInit F (pc := 1) (tw_m_Jxa1e45_1) tw_oi tw_oc dJxa1e45_init_da8c8_1 (Nat.le_of_ble_eq_true rfl) (Nat.le_of_ble_eq_true rfl) (by decide) ?_
  refine v_vret F (pc := 4) dJxa1e45_init_da8c8_4 rfl (Nat.le_of_ble_eq_true rfl) (Nat.le_of_ble_eq_true rfl) ?_
  exact ⟨rfl, rfl⟩
-- Jxc12de_init_da8c8
set_option maxRecDepth 100000 in
set_option maxHeartbeats 8000000 in
theorem k_Jxc12de_init_da8c8 (l : Launch) (g : gT) {h : fH} {a : Nat} (ha : h a = some (.inr (2, [.int (iI 0), .null, .int (iI 0)]))) : CM l g yJxc12de_init_da8c8 cJxc12de_init_da8c8 1 none ({ frames := 2, cells := 0, slots := 0, locals := 40 }) [.ref a] (h) (pV none (f_up h a (.inr (2, [.int (iI 0), .null, .int (iI 0)])))) (noX) := by
  refine CM.of (lo := [some (.ref a)]) (by decide) (Nat.le_of_ble_eq_true rfl) (by simp [Value.category]) rfl ?_
  intro pX eX sX mX bX tX cX AX F htab hmn
  have F : Fx pX l sX mX ([.ref a] : List Value).toArray tX cX cJxc12de_init_da8c8 1 none RJxc12de g AX := F
  have hinit : tX.name = "<init>" := hmn
  refine v_aload_n F (pc := 0) dJxc12de_init_da8c8_0 rfl ?_
  refine v_callIn F (pc := 1) (As := []) (rest := []) ci_Jxc12de_1 ct_Jxa1e45_init_da8c8 rfl (k_Jxa1e45_init_da8c8 l g) dJxc12de_init_da8c8_1 rfl rfl (Nat.le_of_ble_eq_true rfl) (Nat.le_of_ble_eq_true rfl) (Nat.le_of_ble_eq_true rfl) (Nat.le_of_ble_eq_true rfl) (Nat.le_of_ble_eq_true rfl) ?_
  refine v_aload_n F (pc := 4) dJxc12de_init_da8c8_4 rfl ?_
  refine v_iconst F (pc := 5) dJxc12de_init_da8c8_5 ?_
  refine v_putf F (pc := 6) fp_Jxc12de_7_2 dJxc12de_init_da8c8_6 ha rfl rfl (Nat.le_of_ble_eq_true rfl) (h' := f_up h a (.inr (2, [.int (iI (0)), .null, .int (iI (0))]))) rfl ?_
  refine v_vret F (pc := 9) dJxc12de_init_da8c8_9 rfl (Nat.le_of_ble_eq_true rfl) (Nat.le_of_ble_eq_true rfl) ?_
  exact ⟨rfl, rfl⟩
-- Jx4a65c_init_da8c8
set_option maxRecDepth 100000 in
set_option maxHeartbeats 8000000 in
theorem k_Jx4a65c_init_da8c8 (l : Launch) (g : gT) {h : fH} {a : Nat} (ha : h a = some (.inr (2, [.int (iI 0), .null, .int (iI 0)]))) : CM l g yJx4a65c_init_da8c8 cJx4a65c_init_da8c8 1 none ({ frames := 3, cells := 0, slots := 0, locals := 60 }) [.ref a] (h) (pV none (f_up h a (.inr (2, [.int (iI 0), .ref g.2.2, .int (iI 0)])))) (noX) := by
  refine CM.of (lo := [some (.ref a)]) (by decide) (Nat.le_of_ble_eq_true rfl) (by simp [Value.category]) rfl ?_
  intro pX eX sX mX bX tX cX AX F htab hmn
  have F : Fx pX l sX mX ([.ref a] : List Value).toArray tX cX cJx4a65c_init_da8c8 1 none RJx4a65c g AX := F
  have hinit : tX.name = "<init>" := hmn
  refine v_aload_n F (pc := 0) dJx4a65c_init_da8c8_0 rfl ?_
  refine v_callIn F (pc := 1) (As := []) (rest := []) ci_Jx4a65c_1 ct_Jxc12de_init_da8c8 rfl (k_Jxc12de_init_da8c8 l g ha) dJx4a65c_init_da8c8_1 rfl rfl (Nat.le_of_ble_eq_true rfl) (Nat.le_of_ble_eq_true rfl) (Nat.le_of_ble_eq_true rfl) (Nat.le_of_ble_eq_true rfl) (Nat.le_of_ble_eq_true rfl) ?_
  refine v_aload_n F (pc := 4) dJx4a65c_init_da8c8_4 rfl ?_
  refine v_gets F (pc := 5) fw_Jx4a65c_39 dJx4a65c_init_da8c8_5 ?_
  refine v_putf F (pc := 8) fp_Jx4a65c_9_2 dJx4a65c_init_da8c8_8 (f_up_s _ _ _) rfl rfl (Nat.le_of_ble_eq_true rfl) (h' := f_up h a (.inr (2, [.int (iI (0)), .ref g.2.2, .int (iI (0))]))) (f_up_up _ _ _ _) ?_
  refine v_vret F (pc := 11) dJx4a65c_init_da8c8_11 rfl (Nat.le_of_ble_eq_true rfl) (Nat.le_of_ble_eq_true rfl) ?_
  exact ⟨rfl, rfl⟩
-- Jx4a65c_size_8abf5
set_option maxRecDepth 100000 in
set_option maxHeartbeats 8000000 in
theorem k_Jx4a65c_size_8abf5 (l : Launch) (g : gT) {h : fH} {a ed : Nat} {mc n : Int} (ha : h a = some (.inr (2, [.int (iI mc), .ref ed, .int (iI n)]))) : CM l g yJx4a65c_size_8abf5 cJx4a65c_size_8abf5 1 (some .int) ({ frames := 1, cells := 0, slots := 0, locals := 20 }) [.ref a] (h) (pV (some (.int (iI n))) h) (noX) := by
  refine CM.of (lo := [some (.ref a)]) (by decide) (Nat.le_of_ble_eq_true rfl) (by simp [Value.category]) rfl ?_
  intro pX eX sX mX bX tX cX AX F htab hmn
  have F : Fx pX l sX mX ([.ref a] : List Value).toArray tX cX cJx4a65c_size_8abf5 1 (some .int) RJx4a65c g AX := F
  refine v_aload_n F (pc := 0) dJx4a65c_size_8abf5_0 rfl ?_
  refine v_getf F (pc := 1) fd_Jx4a65c_48_2 (v := .int (iI (n))) dJx4a65c_size_8abf5_1 ha rfl ?_
  refine v_iret F (pc := 4) (z := (iI (n))) dJx4a65c_size_8abf5_4 rfl rfl (Nat.le_of_ble_eq_true rfl) (Nat.le_of_ble_eq_true rfl) ?_
  exact ⟨rfl, rfl⟩
-- Jx4a65c_elementData_915e3
set_option maxRecDepth 100000 in
set_option maxHeartbeats 8000000 in
theorem k_Jx4a65c_elementData_915e3 (l : Launch) (g : gT) {h : fH} {a ed : Nat} {mc n : Int} (ha : h a = some (.inr (2, [.int (iI mc), .ref ed, .int (iI n)]))) {cap : Nat} {r : Int → Option Nat} (hed : h ed = some (qar (g.2.1 2) cap r)) {i : Int} {q : Nat} (hi : 0 ≤ i ∧ i < n) (hn : n ≤ cap) (hc : cap ≤ 1000) (hq : r i = some q) : CM l g yJx4a65c_elementData_915e3 cJx4a65c_elementData_915e3 2 (some (.object "java/lang/Object")) ({ frames := 1, cells := 0, slots := 0, locals := 20 }) [.ref a, .int (iI (i))] (h) (pV (some (.ref q)) h) (noX) := by
  refine CM.of (lo := [some (.ref a), some (.int (iI (i)))]) (by decide) (Nat.le_of_ble_eq_true rfl) (by simp [Value.category]) rfl ?_
  intro pX eX sX mX bX tX cX AX F htab hmn
  have F : Fx pX l sX mX ([.ref a, .int (iI (i))] : List Value).toArray tX cX cJx4a65c_elementData_915e3 2 (some (.object "java/lang/Object")) RJx4a65c g AX := F
  refine v_aload_n F (pc := 0) dJx4a65c_elementData_915e3_0 rfl ?_
  refine v_getf F (pc := 1) fd_Jx4a65c_9_2 (v := .ref ed) dJx4a65c_elementData_915e3_1 ha rfl ?_
  refine v_iload_n F (pc := 4) dJx4a65c_elementData_915e3_4 rfl ?_
  refine v_aald F (pc := 5) (n := cap) (r := r) (z := i) (q := q) dJx4a65c_elementData_915e3_5 hed (by omega) (by omega) hq ?_
  refine v_aret F (pc := 6) dJx4a65c_elementData_915e3_6 rfl (Or.inl ⟨_, rfl⟩) (Nat.le_of_ble_eq_true rfl) (Nat.le_of_ble_eq_true rfl) ?_
  exact ⟨rfl, rfl⟩
-- Jx4a65c_get_915e3
set_option maxRecDepth 100000 in
set_option maxHeartbeats 8000000 in
theorem k_Jx4a65c_get_915e3 (l : Launch) (g : gT) {h : fH} {a ed : Nat} {mc n : Int} (ha : h a = some (.inr (2, [.int (iI mc), .ref ed, .int (iI n)]))) {cap : Nat} {r : Int → Option Nat} (hed : h ed = some (qar (g.2.1 2) cap r)) {i : Int} {q : Nat} (hi : 0 ≤ i ∧ i < n) (hn : n ≤ cap) (hc : cap ≤ 1000) (hq : r i = some q) : CM l g yJx4a65c_get_915e3 cJx4a65c_get_915e3 2 (some (.object "java/lang/Object")) ({ frames := 3, cells := 0, slots := 0, locals := 63 }) [.ref a, .int (iI (i))] (h) (pV (some (.ref q)) h) (noX) := by
  refine CM.of (lo := [some (.ref a), some (.int (iI (i)))]) (by decide) (Nat.le_of_ble_eq_true rfl) (by simp [Value.category]) rfl ?_
  intro pX eX sX mX bX tX cX AX F htab hmn
  have F : Fx pX l sX mX ([.ref a, .int (iI (i))] : List Value).toArray tX cX cJx4a65c_get_915e3 2 (some (.object "java/lang/Object")) RJx4a65c g AX := F
  refine v_iload_n F (pc := 0) dJx4a65c_get_915e3_0 rfl ?_
  refine v_aload_n F (pc := 1) dJx4a65c_get_915e3_1 rfl ?_
  refine v_getf F (pc := 2) fd_Jx4a65c_48_2 (v := .int (iI (n))) dJx4a65c_get_915e3_2 ha rfl ?_
  refine v_callSp F (pc := 5) (As := [.int (iI (i)), .int (iI (n))]) (rest := []) ci_Jx4a65c_118 ct_J15_checkIndex_7cf53 (k_J15_checkIndex_7cf53 l g i n (by omega)) dJx4a65c_get_915e3_5 rfl rfl (Nat.le_of_ble_eq_true rfl) (Nat.le_of_ble_eq_true rfl) (Nat.le_of_ble_eq_true rfl) (Nat.le_of_ble_eq_true rfl) (Nat.le_of_ble_eq_true rfl) ?_ (fun _ _ z => z.elim)
  refine v_pop F (pc := 8) dJx4a65c_get_915e3_8 rfl ?_
  refine v_aload_n F (pc := 9) dJx4a65c_get_915e3_9 rfl ?_
  refine v_iload_n F (pc := 10) dJx4a65c_get_915e3_10 rfl ?_
  refine v_callVp F (pc := 11) (As := [.int (iI (i))]) (rest := []) ci_Jx4a65c_123 ct_Jx4a65c_elementData_915e3 cs_Jx4a65c_elementData_915e3 (k_Jx4a65c_elementData_915e3 l g ha hed hi hn hc hq) dJx4a65c_get_915e3_11 (k0 := 2) rfl rfl ha rfl rfl (Nat.le_of_ble_eq_true rfl) (Nat.le_of_ble_eq_true rfl) (Nat.le_of_ble_eq_true rfl) (Nat.le_of_ble_eq_true rfl) (Nat.le_of_ble_eq_true rfl) ?_ (fun _ _ z => z.elim)
  refine v_aret F (pc := 14) dJx4a65c_get_915e3_14 rfl (Or.inl ⟨_, rfl⟩) (Nat.le_of_ble_eq_true rfl) (Nat.le_of_ble_eq_true rfl) ?_
  exact ⟨rfl, rfl⟩
-- J8_newLength_cabcc
set_option maxRecDepth 100000 in
set_option maxHeartbeats 8000000 in
theorem k_J8_newLength_cabcc (l : Launch) (g : gT) {h : fH} (a b c : Int) (hb : 0 ≤ a ∧ a ≤ 1000) (hb2 : 1 ≤ b ∧ b ≤ 1000) (hb3 : 0 ≤ c ∧ c ≤ 1000) : CM l g yJ8_newLength_cabcc cJ8_newLength_cabcc 4 (some .int) ({ frames := 2, cells := 0, slots := 0, locals := 30 }) [.int (iI (a)), .int (iI (b)), .int (iI (c))] (h) (pV (some (.int (iI (a + max b c)))) h) (noX) := by
  refine CM.of (lo := [some (.int (iI (a))), some (.int (iI (b))), some (.int (iI (c))), none]) (by decide) (Nat.le_of_ble_eq_true rfl) (by simp [Value.category]) rfl ?_
  intro pX eX sX mX bX tX cX AX F htab hmn
  have F : Fx pX l sX mX ([.int (iI (a)), .int (iI (b)), .int (iI (c))] : List Value).toArray tX cX cJ8_newLength_cabcc 4 (some .int) RJ8 g AX := F
  refine v_iload_n F (pc := 0) dJ8_newLength_cabcc_0 rfl ?_
  refine v_iload_n F (pc := 1) dJ8_newLength_cabcc_1 rfl ?_
  refine v_iload_n F (pc := 2) dJ8_newLength_cabcc_2 rfl ?_
  refine v_mmax F (pc := 3) (a := b) (b := c) (rest := [.int (iI (a))]) ci_J8_194 ct_J9_max_7cf53 dJ8_newLength_cabcc_3 (by omega) (by omega) (Nat.le_of_ble_eq_true rfl) (Nat.le_of_ble_eq_true rfl) (Nat.le_of_ble_eq_true rfl) (Nat.le_of_ble_eq_true rfl) (Nat.le_of_ble_eq_true rfl) ?_
  refine v_iadd F (pc := 6) (a := a) (b := max b c) dJ8_newLength_cabcc_6 ?_
  refine v_istore_n F (pc := 7) (lo' := [some (.int (iI (a))), some (.int (iI (b))), some (.int (iI (c))), some (.int (iI (a + (max b c))))]) dJ8_newLength_cabcc_7 (Nat.le_of_ble_eq_true rfl) rfl ?_
  refine v_iconst F (pc := 8) dJ8_newLength_cabcc_8 ?_
  refine v_iload_n F (pc := 9) dJ8_newLength_cabcc_9 rfl ?_
  refine v_icmp_ge F (pc := 10) (a := 0) (b := a + (max b c)) 21 dJ8_newLength_cabcc_10 (by decide) (by omega) (by omega) (fun c_1 => ?_) (fun c_1 => ?_)
  · exact absurd c_1 (by omega)
  · refine v_iload_n F (pc := 13) dJ8_newLength_cabcc_13 rfl ?_
    refine v_ldcI F (pc := 14) (v := 2147483639) jw_k200 dJ8_newLength_cabcc_14 ?_
    refine v_icmp_gt F (pc := 16) (a := a + (max b c)) (b := 2147483639) 21 dJ8_newLength_cabcc_16 (by decide) (by omega) (by omega) (fun c_2 => ?_) (fun c_2 => ?_)
    · exact absurd c_2 (by omega)
    · refine v_iload_n F (pc := 19) dJ8_newLength_cabcc_19 rfl ?_
      refine v_iret F (pc := 20) (z := (iI (a + (max b c)))) dJ8_newLength_cabcc_20 rfl rfl (Nat.le_of_ble_eq_true rfl) (Nat.le_of_ble_eq_true rfl) ?_
      exact ⟨rfl, rfl⟩
-- J7_copyOf_6403c
set_option maxRecDepth 100000 in
set_option maxHeartbeats 8000000 in
theorem k_J7_copyOf_6403c (l : Launch) (g : gT) {h : fH} {ed cap N ci : Nat} {r : Int → Option Nat} {rr : vw_C} (hed : h ed = some (qar (g.2.1 2) cap r)) (hN : cap ≤ N) (hN2 : N ≤ 150) (hcl : vwCl[ci]? = some rr) (hca : Cond.castable rr.1 "java/lang/Object" ∈ lw_T) (hel : ∀ i, (0 : Int) ≤ i → i < cap → ∀ y, r i = some y → ∃ vs, h y = some (.inr (ci, vs))) : CM l g yJ7_copyOf_6403c cJ7_copyOf_6403c 4 (some (.array (.object "java/lang/Object"))) ({ frames := 2, cells := 1, slots := 150, locals := 60 }) [.ref ed, .int (iI ((N : Nat))), .ref (g.2.1 5)] (h) (fun v h1 => ∃ q, h q = none ∧ v = some (.ref q) ∧ h1 = f_up h q (qar (g.2.1 2) N (icp r (fun _ => none) 0 0 cap))) (noX) := by
  refine CM.of (lo := [some (.ref ed), some (.int (iI ((N : Nat)))), some (.ref (g.2.1 5)), none]) (by decide) (Nat.le_of_ble_eq_true rfl) (by simp [Value.category]) rfl ?_
  intro pX eX sX mX bX tX cX AX F htab hmn
  have F : Fx pX l sX mX ([.ref ed, .int (iI ((N : Nat))), .ref (g.2.1 5)] : List Value).toArray tX cX cJ7_copyOf_6403c 4 (some (.array (.object "java/lang/Object"))) RJ7 g AX := F
  have hmi := F.2.2.2.2.2.2.2.1.2.2.2.1
  refine v_aload_n F (pc := 0) dJ7_copyOf_6403c_0 rfl ?_
  refine v_ldcM F (pc := 1) (mi := g.2.1 5) tk_J7_110 hmi dJ7_copyOf_6403c_1 ?_
  refine v_acmp_ne F (pc := 3) (a := (g.2.1 5)) (b := (g.2.1 5)) 13 dJ7_copyOf_6403c_3 (by decide) (fun c_1 => ?_) (fun c_1 => ?_)
  · exact absurd rfl c_1
  · refine v_iload_n F (pc := 6) dJ7_copyOf_6403c_6 rfl ?_
    refine v_anewq F (pc := 7) (n := N) tk_J7_2 dJ7_copyOf_6403c_7 (by omega) (Nat.le_of_ble_eq_true rfl) (Nat.le_trans (show 0 + N ≤ 150 by omega) (Nat.le_of_ble_eq_true rfl)) (fun q_2 nq_2 => ?_)
    refine v_wid (k := 1) (n := 150) (Nat.le_refl _) (show 0 + N ≤ 150 by omega) ?_
    have ne_q_2_hed : ed ≠ q_2 := fun z_ => by rw [z_, nq_2] at hed; cases hed
    refine v_goto F (pc := 10) 24 dJ7_copyOf_6403c_10 (by decide) ?_
    refine v_astore_n F (pc := 24) (lo' := [some (.ref ed), some (.int (iI ((N : Nat)))), some (.ref (g.2.1 5)), some (.ref q_2)]) dJ7_copyOf_6403c_24 (Nat.le_of_ble_eq_true rfl) rfl ?_
    refine v_aload_n F (pc := 25) dJ7_copyOf_6403c_25 rfl ?_
    refine v_iconst F (pc := 26) dJ7_copyOf_6403c_26 ?_
    refine v_aload_n F (pc := 27) dJ7_copyOf_6403c_27 rfl ?_
    refine v_iconst F (pc := 28) dJ7_copyOf_6403c_28 ?_
    refine v_aload_n F (pc := 29) dJ7_copyOf_6403c_29 rfl ?_
    refine v_alen F (pc := 30) (t := 2) dJ7_copyOf_6403c_30 ((f_up_n ne_q_2_hed).trans hed) rfl ?_
    refine v_iload_n F (pc := 31) dJ7_copyOf_6403c_31 rfl ?_
    refine v_mmin F (pc := 32) (a := (cap : Nat)) (b := (N : Nat)) (rest := [.int (iI (0)), .ref q_2, .int (iI (0)), .ref ed]) ci_J7_304 ct_J9_min_7cf53 dJ7_copyOf_6403c_32 (by omega) (by omega) (Nat.le_of_ble_eq_true rfl) (Nat.le_of_ble_eq_true rfl) (Nat.le_of_ble_eq_true rfl) (Nat.le_of_ble_eq_true rfl) (Nat.le_of_ble_eq_true rfl) ?_
    refine V.to (lo' := [some (.ref ed), some (.int (iI ((N : Nat)))), some (.ref (g.2.1 5)), some (.ref q_2)]) (st' := [.int (iI ((cap : Nat))), .int (iI (0)), .ref q_2, .int (iI (0)), .ref ed]) ?_ rfl rfl (by rw [show min ((cap : Nat) : Int) (N : Nat) = (cap : Nat) from by omega])
    refine v_copyq F (pc := 35) (n0 := cap) (n1 := N) (f := r) (f1 := fun _ => none) (sp := 0) (dp := 0) (n := (cap : Nat)) jw_ac_J7_150 jw_nat jw_stat jw_ini dJ7_copyOf_6403c_35 ((f_up_n ne_q_2_hed).trans hed) (f_up_s _ _ _) (by omega) (by omega) (by omega) (by omega) (by omega) (by omega) (by omega) hcl hca (fun i q1 q2 y qy => hel_new nq_2 hel i q1 (by omega) y qy) (Nat.le_of_ble_eq_true rfl) (Nat.le_of_ble_eq_true rfl) (h' := f_up h q_2 (qar (g.2.1 2) N (icp r (fun _ => none) 0 0 (cap : Nat)))) (f_up_up _ _ _ _) ?_
    refine v_aload_n F (pc := 38) dJ7_copyOf_6403c_38 rfl ?_
    refine v_aret F (pc := 39) dJ7_copyOf_6403c_39 rfl (Or.inr ⟨_, rfl⟩) (Nat.le_of_ble_eq_true rfl) (Nat.le_of_ble_eq_true rfl) ?_
    exact ⟨q_2, nq_2, rfl, rfl⟩
-- J7_copyOf_1904c
set_option maxRecDepth 100000 in
set_option maxHeartbeats 8000000 in
theorem k_J7_copyOf_1904c (l : Launch) (g : gT) {h : fH} {ed cap N ci : Nat} {r : Int → Option Nat} {rr : vw_C} (hed : h ed = some (qar (g.2.1 2) cap r)) (hN : cap ≤ N) (hN2 : N ≤ 150) (hcl : vwCl[ci]? = some rr) (hca : Cond.castable rr.1 "java/lang/Object" ∈ lw_T) (hel : ∀ i, (0 : Int) ≤ i → i < cap → ∀ y, r i = some y → ∃ vs, h y = some (.inr (ci, vs))) : CM l g yJ7_copyOf_1904c cJ7_copyOf_1904c 2 (some (.array (.object "java/lang/Object"))) ({ frames := 3, cells := 1, slots := 150, locals := 83 }) [.ref ed, .int (iI ((N : Nat)))] (h) (fun v h1 => ∃ q, h q = none ∧ v = some (.ref q) ∧ h1 = f_up h q (qar (g.2.1 2) N (icp r (fun _ => none) 0 0 cap))) (noX) := by
  refine CM.of (lo := [some (.ref ed), some (.int (iI ((N : Nat))))]) (by decide) (Nat.le_of_ble_eq_true rfl) (by simp [Value.category]) rfl ?_
  intro pX eX sX mX bX tX cX AX F htab hmn
  have F : Fx pX l sX mX ([.ref ed, .int (iI ((N : Nat)))] : List Value).toArray tX cX cJ7_copyOf_1904c 2 (some (.array (.object "java/lang/Object"))) RJ7 g AX := F
  have hmi := F.2.2.2.2.2.2.2.1.2.2.2.1
  refine v_aload_n F (pc := 0) dJ7_copyOf_1904c_0 rfl ?_
  refine v_iload_n F (pc := 1) dJ7_copyOf_1904c_1 rfl ?_
  refine v_aload_n F (pc := 2) dJ7_copyOf_1904c_2 rfl ?_
  refine v_getC F (pc := 3) (n := cap) (r := r) jw_gc_J7_86 jw_g1 jw_g2 jw_g3 jw_g4 hmi dJ7_copyOf_1904c_3 hed (Nat.le_of_ble_eq_true rfl) (Nat.le_of_ble_eq_true rfl) ?_
  refine v_callS F (pc := 6) (As := [.ref ed, .int (iI ((N : Nat))), .ref (g.2.1 5)]) (rest := []) ci_J7_300 ct_J7_copyOf_6403c (k_J7_copyOf_6403c l g hed hN hN2 hcl hca hel) dJ7_copyOf_1904c_6 rfl rfl (Nat.le_of_ble_eq_true rfl) (Nat.le_of_ble_eq_true rfl) (Nat.le_of_ble_eq_true rfl) (Nat.le_of_ble_eq_true rfl) (Nat.le_of_ble_eq_true rfl) (fun v_ h_ hp_ => ?_) (fun _ _ z => z.elim)
  obtain ⟨q_1, nq_1, rfl, rfl⟩ := hp_
  refine v_aret F (pc := 9) dJ7_copyOf_1904c_9 rfl (Or.inr ⟨_, rfl⟩) (Nat.le_of_ble_eq_true rfl) (Nat.le_of_ble_eq_true rfl) ?_
  exact ⟨q_1, nq_1, rfl, rfl⟩
-- Jx4a65c_grow_92f84
set_option maxRecDepth 100000 in
set_option maxHeartbeats 8000000 in
theorem k_Jx4a65c_grow_92f84 (l : Launch) (g : gT) {h : fH} {a ed : Nat} {mc n : Int} (ha : h a = some (.inr (2, [.int (iI mc), .ref ed, .int (iI n)]))) {cap : Nat} {r : Int → Option Nat} (hlb : lb g h ed cap r) {ci : Nat} {rr : vw_C} (hcl : vwCl[ci]? = some rr) (hca : Cond.castable rr.1 "java/lang/Object" ∈ lw_T) (hci : ci ≠ 2) (hel : ∀ i, (0 : Int) ≤ i → i < n → ∀ y, r i = some y → ∃ vs, h y = some (.inr (ci, vs))) (hn : n = cap) (hc : cap ≤ 90) (mcap : Int) (hm : mcap = n + 1) : CM l g yJx4a65c_grow_92f84 cJx4a65c_grow_92f84 4 (some (.array (.object "java/lang/Object"))) ({ frames := 4, cells := 1, slots := 150, locals := 104 }) [.ref a, .int (iI (mcap))] (h) (fun v h1 => ∃ (q N : Nat) (r1 : Int → Option Nat), h q = none ∧ v = some (.ref q) ∧ h1 = f_up (f_up h q (qar (g.2.1 2) N r1)) a (.inr (2, [.int (iI mc), .ref q, .int (iI n)])) ∧ cap < N ∧ N ≤ 150 ∧ ∀ i, 0 ≤ i → i < n → r1 i = r i) (noX) := by
  refine CM.of (lo := [some (.ref a), some (.int (iI (mcap))), none, none]) (by decide) (Nat.le_of_ble_eq_true rfl) (by simp [Value.category]) rfl ?_
  intro pX eX sX mX bX tX cX AX F htab hmn
  have F : Fx pX l sX mX ([.ref a, .int (iI (mcap))] : List Value).toArray tX cX cJx4a65c_grow_92f84 4 (some (.array (.object "java/lang/Object"))) RJx4a65c g AX := F
  refine v_aload_n F (pc := 0) dJx4a65c_grow_92f84_0 rfl ?_
  refine v_getf F (pc := 1) fd_Jx4a65c_9_2 (v := .ref ed) dJx4a65c_grow_92f84_1 ha rfl ?_
  refine v_alenL F (pc := 4) (cap := cap) dJx4a65c_grow_92f84_4 hlb ?_
  refine v_istore_n F (pc := 5) (lo' := [some (.ref a), some (.int (iI (mcap))), some (.int (iI ((cap : Nat)))), none]) dJx4a65c_grow_92f84_5 (Nat.le_of_ble_eq_true rfl) rfl ?_
  refine v_iload_n F (pc := 6) dJx4a65c_grow_92f84_6 rfl ?_
  refine v_if_gt F (pc := 7) (a := (cap : Nat)) 20 dJx4a65c_grow_92f84_7 (by decide) (by omega) (fun c_1 => ?_) (fun c_1 => ?_)
  · have hed := hlb.pos (by omega)
    obtain ⟨N, hN⟩ : ∃ N : Nat, (N : Int) = ↑cap + max (mcap - ↑cap) (↑cap / 2) := ⟨_, Int.toNat_of_nonneg (by omega)⟩
    refine v_iload_n F (pc := 20) dJx4a65c_grow_92f84_20 rfl ?_
    refine v_iload_n F (pc := 21) dJx4a65c_grow_92f84_21 rfl ?_
    refine v_iload_n F (pc := 22) dJx4a65c_grow_92f84_22 rfl ?_
    refine v_isub F (pc := 23) (a := mcap) (b := (cap : Nat)) dJx4a65c_grow_92f84_23 ?_
    refine v_iload_n F (pc := 24) dJx4a65c_grow_92f84_24 rfl ?_
    refine v_iconst F (pc := 25) dJx4a65c_grow_92f84_25 ?_
    refine v_ishr1 F (pc := 26) (a := (cap : Nat)) dJx4a65c_grow_92f84_26 (by omega) ?_
    refine v_callSp F (pc := 27) (As := [.int (iI ((cap : Nat))), .int (iI (mcap - (cap : Nat))), .int (iI ((cap : Nat) / 2))]) (rest := []) ci_Jx4a65c_73 ct_J8_newLength_cabcc (k_J8_newLength_cabcc l g (cap : Nat) (mcap - (cap : Nat)) ((cap : Nat) / 2) (by omega) (by omega) (by omega)) dJx4a65c_grow_92f84_27 rfl rfl (Nat.le_of_ble_eq_true rfl) (Nat.le_of_ble_eq_true rfl) (Nat.le_of_ble_eq_true rfl) (Nat.le_of_ble_eq_true rfl) (Nat.le_of_ble_eq_true rfl) ?_ (fun _ _ z => z.elim)
    refine v_istore_n F (pc := 30) (lo' := [some (.ref a), some (.int (iI (mcap))), some (.int (iI ((cap : Nat)))), some (.int (iI ((cap : Nat) + max (mcap - (cap : Nat)) ((cap : Nat) / 2))))]) dJx4a65c_grow_92f84_30 (Nat.le_of_ble_eq_true rfl) rfl ?_
    refine v_aload_n F (pc := 31) dJx4a65c_grow_92f84_31 rfl ?_
    refine v_aload_n F (pc := 32) dJx4a65c_grow_92f84_32 rfl ?_
    refine v_getf F (pc := 33) fd_Jx4a65c_9_2 (v := .ref ed) dJx4a65c_grow_92f84_33 ha rfl ?_
    refine v_iload_n F (pc := 36) dJx4a65c_grow_92f84_36 rfl ?_
    refine V.to (lo' := [some (.ref a), some (.int (iI (mcap))), some (.int (iI ((cap : Nat)))), some (.int (iI ((cap : Nat) + max (mcap - (cap : Nat)) ((cap : Nat) / 2))))]) (st' := [.int (iI ((N : Nat))), .ref ed, .ref a]) ?_ rfl rfl (by rw [hN])
    refine v_callS F (pc := 37) (As := [.ref ed, .int (iI ((N : Nat)))]) (rest := [.ref a]) ci_Jx4a65c_66 ct_J7_copyOf_1904c (k_J7_copyOf_1904c l g (N := N) hed (by omega) (by omega) hcl hca (fun i q1 q2 y qy => hel i q1 (by omega) y qy)) dJx4a65c_grow_92f84_37 rfl rfl (Nat.le_of_ble_eq_true rfl) (Nat.le_of_ble_eq_true rfl) (Nat.le_of_ble_eq_true rfl) (Nat.le_of_ble_eq_true rfl) (Nat.le_of_ble_eq_true rfl) (fun v_ h_ hp_ => ?_) (fun _ _ z => z.elim)
    obtain ⟨q_2, nq_2, rfl, rfl⟩ := hp_
    have ne_a_q_2 : a ≠ q_2 := fun z_ => by rw [z_, nq_2] at ha; cases ha
    refine v_dup_x1 F (pc := 40) dJx4a65c_grow_92f84_40 rfl rfl ?_
    refine v_putf F (pc := 41) fp_Jx4a65c_9_2 dJx4a65c_grow_92f84_41 ((f_up_n ne_a_q_2).trans ha) rfl rfl (Nat.le_of_ble_eq_true rfl) (h' := f_up (f_up h q_2 (qar (g.2.1 2) N (icp r (fun _ => none) 0 0 (cap : Nat)))) a (.inr (2, [.int (iI (mc)), .ref q_2, .int (iI (n))]))) rfl ?_
    refine v_aret F (pc := 44) dJx4a65c_grow_92f84_44 rfl (Or.inr ⟨_, rfl⟩) (Nat.le_of_ble_eq_true rfl) (Nat.le_of_ble_eq_true rfl) ?_
    exact ⟨q_2, N, _, nq_2, rfl, rfl, by omega, by omega, fun i q1 q2 => (icp_in (by omega) (by omega)).trans (congrArg r (by omega))⟩
  · refine v_aload_n F (pc := 10) dJx4a65c_grow_92f84_10 rfl ?_
    refine v_getf F (pc := 11) fd_Jx4a65c_9_2 (v := .ref ed) dJx4a65c_grow_92f84_11 ha rfl ?_
    refine v_gets F (pc := 14) fw_Jx4a65c_39 dJx4a65c_grow_92f84_14 ?_
    refine v_acmp_eq F (pc := 17) (a := ed) (b := g.2.2) 45 dJx4a65c_grow_92f84_17 (by decide) (fun c_3 => ?_) (fun c_3 => ?_)
    · obtain ⟨N, hN⟩ : ∃ N : Nat, (N : Int) = max 10 mcap := ⟨_, Int.toNat_of_nonneg (by omega)⟩
      refine v_aload_n F (pc := 45) dJx4a65c_grow_92f84_45 rfl ?_
      refine v_bipush F (pc := 46) dJx4a65c_grow_92f84_46 (by decide) ?_
      refine v_iload_n F (pc := 48) dJx4a65c_grow_92f84_48 rfl ?_
      refine v_mmax F (pc := 49) (a := 10) (b := mcap) (rest := [.ref a]) ci_Jx4a65c_79 ct_J9_max_7cf53 dJx4a65c_grow_92f84_49 (by omega) (by omega) (Nat.le_of_ble_eq_true rfl) (Nat.le_of_ble_eq_true rfl) (Nat.le_of_ble_eq_true rfl) (Nat.le_of_ble_eq_true rfl) (Nat.le_of_ble_eq_true rfl) ?_
      refine V.to (lo' := [some (.ref a), some (.int (iI (mcap))), some (.int (iI ((cap : Nat)))), none]) (st' := [.int (iI ((N : Nat))), .ref a]) ?_ rfl rfl (by rw [hN])
      refine v_anewq F (pc := 52) (n := N) tk_Jx4a65c_7 dJx4a65c_grow_92f84_52 (by omega) (Nat.le_of_ble_eq_true rfl) (Nat.le_trans (show 0 + N ≤ 150 by omega) (Nat.le_of_ble_eq_true rfl)) (fun q_4 nq_4 => ?_)
      refine v_wid (k := 1) (n := 150) (Nat.le_refl _) (show 0 + N ≤ 150 by omega) ?_
      have ne_q_4_ha : a ≠ q_4 := fun z_ => by rw [z_, nq_4] at ha; cases ha
      refine v_dup_x1 F (pc := 55) dJx4a65c_grow_92f84_55 rfl rfl ?_
      refine v_putf F (pc := 56) fp_Jx4a65c_9_2 dJx4a65c_grow_92f84_56 ((f_up_n ne_q_4_ha).trans ha) rfl rfl (Nat.le_of_ble_eq_true rfl) (h' := f_up (f_up h q_4 (qar (g.2.1 2) N (fun _ => none))) a (.inr (2, [.int (iI (mc)), .ref q_4, .int (iI (n))]))) rfl ?_
      refine v_aret F (pc := 59) dJx4a65c_grow_92f84_59 rfl (Or.inr ⟨_, rfl⟩) (Nat.le_of_ble_eq_true rfl) (Nat.le_of_ble_eq_true rfl) ?_
      exact ⟨q_4, N, _, nq_4, rfl, rfl, by omega, by omega, fun i q1 q2 => by omega⟩
    · have hed : h ed = some (qar (g.2.1 2) cap r) := by rcases hlb with ⟨z1_, z2_⟩ | z_; exact absurd z2_ c_3; exact z_
      obtain ⟨N, hN⟩ : ∃ N : Nat, (N : Int) = ↑cap + max (mcap - ↑cap) (↑cap / 2) := ⟨_, Int.toNat_of_nonneg (by omega)⟩
      refine v_iload_n F (pc := 20) dJx4a65c_grow_92f84_20 rfl ?_
      refine v_iload_n F (pc := 21) dJx4a65c_grow_92f84_21 rfl ?_
      refine v_iload_n F (pc := 22) dJx4a65c_grow_92f84_22 rfl ?_
      refine v_isub F (pc := 23) (a := mcap) (b := (cap : Nat)) dJx4a65c_grow_92f84_23 ?_
      refine v_iload_n F (pc := 24) dJx4a65c_grow_92f84_24 rfl ?_
      refine v_iconst F (pc := 25) dJx4a65c_grow_92f84_25 ?_
      refine v_ishr1 F (pc := 26) (a := (cap : Nat)) dJx4a65c_grow_92f84_26 (by omega) ?_
      refine v_callSp F (pc := 27) (As := [.int (iI ((cap : Nat))), .int (iI (mcap - (cap : Nat))), .int (iI ((cap : Nat) / 2))]) (rest := []) ci_Jx4a65c_73 ct_J8_newLength_cabcc (k_J8_newLength_cabcc l g (cap : Nat) (mcap - (cap : Nat)) ((cap : Nat) / 2) (by omega) (by omega) (by omega)) dJx4a65c_grow_92f84_27 rfl rfl (Nat.le_of_ble_eq_true rfl) (Nat.le_of_ble_eq_true rfl) (Nat.le_of_ble_eq_true rfl) (Nat.le_of_ble_eq_true rfl) (Nat.le_of_ble_eq_true rfl) ?_ (fun _ _ z => z.elim)
      refine v_istore_n F (pc := 30) (lo' := [some (.ref a), some (.int (iI (mcap))), some (.int (iI ((cap : Nat)))), some (.int (iI ((cap : Nat) + max (mcap - (cap : Nat)) ((cap : Nat) / 2))))]) dJx4a65c_grow_92f84_30 (Nat.le_of_ble_eq_true rfl) rfl ?_
      refine v_aload_n F (pc := 31) dJx4a65c_grow_92f84_31 rfl ?_
      refine v_aload_n F (pc := 32) dJx4a65c_grow_92f84_32 rfl ?_
      refine v_getf F (pc := 33) fd_Jx4a65c_9_2 (v := .ref ed) dJx4a65c_grow_92f84_33 ha rfl ?_
      refine v_iload_n F (pc := 36) dJx4a65c_grow_92f84_36 rfl ?_
      refine V.to (lo' := [some (.ref a), some (.int (iI (mcap))), some (.int (iI ((cap : Nat)))), some (.int (iI ((cap : Nat) + max (mcap - (cap : Nat)) ((cap : Nat) / 2))))]) (st' := [.int (iI ((N : Nat))), .ref ed, .ref a]) ?_ rfl rfl (by rw [hN])
      refine v_callS F (pc := 37) (As := [.ref ed, .int (iI ((N : Nat)))]) (rest := [.ref a]) ci_Jx4a65c_66 ct_J7_copyOf_1904c (k_J7_copyOf_1904c l g (N := N) hed (by omega) (by omega) hcl hca (fun i q1 q2 y qy => hel i q1 (by omega) y qy)) dJx4a65c_grow_92f84_37 rfl rfl (Nat.le_of_ble_eq_true rfl) (Nat.le_of_ble_eq_true rfl) (Nat.le_of_ble_eq_true rfl) (Nat.le_of_ble_eq_true rfl) (Nat.le_of_ble_eq_true rfl) (fun v_ h_ hp_ => ?_) (fun _ _ z => z.elim)
      obtain ⟨q_5, nq_5, rfl, rfl⟩ := hp_
      have ne_a_q_5 : a ≠ q_5 := fun z_ => by rw [z_, nq_5] at ha; cases ha
      refine v_dup_x1 F (pc := 40) dJx4a65c_grow_92f84_40 rfl rfl ?_
      refine v_putf F (pc := 41) fp_Jx4a65c_9_2 dJx4a65c_grow_92f84_41 ((f_up_n ne_a_q_5).trans ha) rfl rfl (Nat.le_of_ble_eq_true rfl) (h' := f_up (f_up h q_5 (qar (g.2.1 2) N (icp r (fun _ => none) 0 0 (cap : Nat)))) a (.inr (2, [.int (iI (mc)), .ref q_5, .int (iI (n))]))) rfl ?_
      refine v_aret F (pc := 44) dJx4a65c_grow_92f84_44 rfl (Or.inr ⟨_, rfl⟩) (Nat.le_of_ble_eq_true rfl) (Nat.le_of_ble_eq_true rfl) ?_
      exact ⟨q_5, N, _, nq_5, rfl, rfl, by omega, by omega, fun i q1 q2 => (icp_in (by omega) (by omega)).trans (congrArg r (by omega))⟩
-- Jx4a65c_grow_d5877
set_option maxRecDepth 100000 in
set_option maxHeartbeats 8000000 in
theorem k_Jx4a65c_grow_d5877 (l : Launch) (g : gT) {h : fH} {a ed : Nat} {mc n : Int} (ha : h a = some (.inr (2, [.int (iI mc), .ref ed, .int (iI n)]))) {cap : Nat} {r : Int → Option Nat} (hlb : lb g h ed cap r) {ci : Nat} {rr : vw_C} (hcl : vwCl[ci]? = some rr) (hca : Cond.castable rr.1 "java/lang/Object" ∈ lw_T) (hci : ci ≠ 2) (hel : ∀ i, (0 : Int) ≤ i → i < n → ∀ y, r i = some y → ∃ vs, h y = some (.inr (ci, vs))) (hn : n = cap) (hc : cap ≤ 90) : CM l g yJx4a65c_grow_d5877 cJx4a65c_grow_d5877 1 (some (.array (.object "java/lang/Object"))) ({ frames := 5, cells := 1, slots := 150, locals := 127 }) [.ref a] (h) (fun v h1 => ∃ (q N : Nat) (r1 : Int → Option Nat), h q = none ∧ v = some (.ref q) ∧ h1 = f_up (f_up h q (qar (g.2.1 2) N r1)) a (.inr (2, [.int (iI mc), .ref q, .int (iI n)])) ∧ cap < N ∧ N ≤ 150 ∧ ∀ i, 0 ≤ i → i < n → r1 i = r i) (noX) := by
  refine CM.of (lo := [some (.ref a)]) (by decide) (Nat.le_of_ble_eq_true rfl) (by simp [Value.category]) rfl ?_
  intro pX eX sX mX bX tX cX AX F htab hmn
  have F : Fx pX l sX mX ([.ref a] : List Value).toArray tX cX cJx4a65c_grow_d5877 1 (some (.array (.object "java/lang/Object"))) RJx4a65c g AX := F
  refine v_aload_n F (pc := 0) dJx4a65c_grow_d5877_0 rfl ?_
  refine v_aload_n F (pc := 1) dJx4a65c_grow_d5877_1 rfl ?_
  refine v_getf F (pc := 2) fd_Jx4a65c_48_2 (v := .int (iI (n))) dJx4a65c_grow_d5877_2 ha rfl ?_
  refine v_iconst F (pc := 5) dJx4a65c_grow_d5877_5 ?_
  refine v_iadd F (pc := 6) (a := n) (b := 1) dJx4a65c_grow_d5877_6 ?_
  refine v_callV F (pc := 7) (As := [.int (iI (n + 1))]) (rest := []) ci_Jx4a65c_69 ct_Jx4a65c_grow_92f84 cs_Jx4a65c_grow_92f84 (k_Jx4a65c_grow_92f84 l g ha hlb hcl hca hci hel hn hc (n + 1) rfl) dJx4a65c_grow_d5877_7 (k0 := 2) rfl rfl ha rfl rfl (Nat.le_of_ble_eq_true rfl) (Nat.le_of_ble_eq_true rfl) (Nat.le_of_ble_eq_true rfl) (Nat.le_of_ble_eq_true rfl) (Nat.le_of_ble_eq_true rfl) (fun v_ h_ hp_ => ?_) (fun _ _ z => z.elim)
  obtain ⟨q_9, N, r1, nq_9, rfl, rfl, hN1, hN2, hr1⟩ := hp_
  refine v_aret F (pc := 10) dJx4a65c_grow_d5877_10 rfl (Or.inr ⟨_, rfl⟩) (Nat.le_of_ble_eq_true rfl) (Nat.le_of_ble_eq_true rfl) ?_
  exact ⟨q_9, N, r1, nq_9, rfl, rfl, hN1, hN2, hr1⟩
-- Jx4a65c_add_72be8
set_option maxRecDepth 100000 in
set_option maxHeartbeats 8000000 in
theorem k_Jx4a65c_add_72be8 (l : Launch) (g : gT) {h : fH} {a ed : Nat} {mc n : Int} (ha : h a = some (.inr (2, [.int (iI mc), .ref ed, .int (iI n)]))) {cap : Nat} {r : Int → Option Nat} (hlb : lb g h ed cap r) {ci : Nat} {rr : vw_C} (hcl : vwCl[ci]? = some rr) (hca : Cond.castable rr.1 "java/lang/Object" ∈ lw_T) (hci : ci ≠ 2) (hel : ∀ i, (0 : Int) ≤ i → i < n → ∀ y, r i = some y → ∃ vs, h y = some (.inr (ci, vs))) {v : Nat} {vs : List Value} (hv : h v = some (.inr (ci, vs))) (hn0 : 0 ≤ n) (hn : n ≤ cap) (hn2 : n ≤ 90) (hc : cap ≤ 150) : CM l g yJx4a65c_add_72be8 cJx4a65c_add_72be8 4 none ({ frames := 6, cells := 1, slots := 150, locals := 147 }) [.ref a, .ref v, .ref ed, .int (iI (n))] (h) (fun w h1 => w = none ∧ LA g h h1 a ed (mc) (n + 1) cap r (fun r1 => r1 n = some v ∧ ∀ i, 0 ≤ i → i < n → r1 i = r i)) (noX) := by
  refine CM.of (lo := [some (.ref a), some (.ref v), some (.ref ed), some (.int (iI (n)))]) (by decide) (Nat.le_of_ble_eq_true rfl) (by simp [Value.category]) rfl ?_
  intro pX eX sX mX bX tX cX AX F htab hmn
  have F : Fx pX l sX mX ([.ref a, .ref v, .ref ed, .int (iI (n))] : List Value).toArray tX cX cJx4a65c_add_72be8 4 none RJx4a65c g AX := F
  have ne_v_a : v ≠ a := fun z_ => by rw [z_, ha] at hv; exact hci (by cases hv; rfl)
  refine v_iload_n F (pc := 0) dJx4a65c_add_72be8_0 rfl ?_
  refine v_aload_n F (pc := 1) dJx4a65c_add_72be8_1 rfl ?_
  refine v_alenL F (pc := 2) (cap := cap) dJx4a65c_add_72be8_2 hlb ?_
  refine v_icmp_ne F (pc := 3) (a := n) (b := (cap : Nat)) 11 dJx4a65c_add_72be8_3 (by decide) (by omega) (by omega) (fun c_1 => ?_) (fun c_1 => ?_)
  · have hed := hlb.pos (by omega)
    have ne_ed_a : ed ≠ a := lb.ne hed ha
    have ne_v_ed : v ≠ ed := fun z_ => by rw [z_, hed] at hv; cases hv
    refine v_aload_n F (pc := 11) dJx4a65c_add_72be8_11 rfl ?_
    refine v_iload_n F (pc := 12) dJx4a65c_add_72be8_12 rfl ?_
    refine v_aload_n F (pc := 13) dJx4a65c_add_72be8_13 rfl ?_
    refine v_astq F (pc := 14) (n := cap) (r := r) (z := n) dJx4a65c_add_72be8_14 hed (by omega) (by omega) hv hcl hca (h' := f_up h ed (qar (g.2.1 2) cap (iup r n (some v)))) rfl ?_
    refine v_aload_n F (pc := 15) dJx4a65c_add_72be8_15 rfl ?_
    refine v_iload_n F (pc := 16) dJx4a65c_add_72be8_16 rfl ?_
    refine v_iconst F (pc := 17) dJx4a65c_add_72be8_17 ?_
    refine v_iadd F (pc := 18) (a := n) (b := 1) dJx4a65c_add_72be8_18 ?_
    refine v_putf F (pc := 19) fp_Jx4a65c_48_2 dJx4a65c_add_72be8_19 ((f_up_n (Ne.symm ne_ed_a)).trans ha) rfl rfl (Nat.le_of_ble_eq_true rfl) (h' := f_up (f_up h ed (qar (g.2.1 2) cap (iup r n (some v)))) a (.inr (2, [.int (iI (mc)), .ref ed, .int (iI (n + 1))]))) rfl ?_
    refine v_vret F (pc := 22) dJx4a65c_add_72be8_22 rfl (Nat.le_of_ble_eq_true rfl) (Nat.le_of_ble_eq_true rfl) ?_
    exact ⟨rfl, ed, cap, _, rfl, Or.inl ⟨rfl, rfl, hed⟩, by omega, by omega, iup_s _ _ _, fun i q1 q2 => iup_n (by omega)⟩
  · refine v_aload_n F (pc := 6) dJx4a65c_add_72be8_6 rfl ?_
    refine v_callV F (pc := 7) (As := []) (rest := []) ci_Jx4a65c_129 ct_Jx4a65c_grow_d5877 cs_Jx4a65c_grow_d5877 (k_Jx4a65c_grow_d5877 l g ha hlb hcl hca hci hel (by omega) (by omega)) dJx4a65c_add_72be8_7 (k0 := 2) rfl rfl ha rfl rfl (Nat.le_of_ble_eq_true rfl) (Nat.le_of_ble_eq_true rfl) (Nat.le_of_ble_eq_true rfl) (Nat.le_of_ble_eq_true rfl) (Nat.le_of_ble_eq_true rfl) (fun v_ h_ hp_ => ?_) (fun _ _ z => z.elim)
    obtain ⟨q_9, N, r1, nq_9, rfl, rfl, hN1, hN2, hr1⟩ := hp_
    have ne_a_q : a ≠ q_9 := fun z_ => by rw [z_, nq_9] at ha; cases ha
    have ne_v_q : v ≠ q_9 := fun z_ => by rw [z_, nq_9] at hv; cases hv
    refine v_astore_n F (pc := 10) (lo' := [some (.ref a), some (.ref v), some (.ref q_9), some (.int (iI (n)))]) dJx4a65c_add_72be8_10 (Nat.le_of_ble_eq_true rfl) rfl ?_
    refine v_aload_n F (pc := 11) dJx4a65c_add_72be8_11 rfl ?_
    refine v_iload_n F (pc := 12) dJx4a65c_add_72be8_12 rfl ?_
    refine v_aload_n F (pc := 13) dJx4a65c_add_72be8_13 rfl ?_
    refine v_astq F (pc := 14) (n := N) (r := r1) (z := n) dJx4a65c_add_72be8_14 ((f_up_n (Ne.symm ne_a_q)).trans (f_up_s _ _ _)) (by omega) (by omega) ((f_up_n ne_v_a).trans ((f_up_n ne_v_q).trans hv)) hcl hca (h' := f_up (f_up h q_9 (qar (g.2.1 2) N (iup r1 n (some v)))) a (.inr (2, [.int (iI (mc)), .ref q_9, .int (iI (n))]))) (f_up_up1 ne_a_q _ _ _ _) ?_
    refine v_aload_n F (pc := 15) dJx4a65c_add_72be8_15 rfl ?_
    refine v_iload_n F (pc := 16) dJx4a65c_add_72be8_16 rfl ?_
    refine v_iconst F (pc := 17) dJx4a65c_add_72be8_17 ?_
    refine v_iadd F (pc := 18) (a := n) (b := 1) dJx4a65c_add_72be8_18 ?_
    refine v_putf F (pc := 19) fp_Jx4a65c_48_2 dJx4a65c_add_72be8_19 (f_up_s _ _ _) rfl rfl (Nat.le_of_ble_eq_true rfl) (h' := f_up (f_up h q_9 (qar (g.2.1 2) N (iup r1 n (some v)))) a (.inr (2, [.int (iI (mc)), .ref q_9, .int (iI (n + 1))]))) (f_up_up _ _ _ _) ?_
    refine v_vret F (pc := 22) dJx4a65c_add_72be8_22 rfl (Nat.le_of_ble_eq_true rfl) (Nat.le_of_ble_eq_true rfl) ?_
    exact ⟨rfl, q_9, N, _, rfl, Or.inr nq_9, by omega, by omega, iup_s _ _ _, fun i q1 q2 => (iup_n (by omega)).trans (hr1 i q1 q2)⟩
-- Jx4a65c_add_9ea2d
set_option maxRecDepth 100000 in
set_option maxHeartbeats 8000000 in
theorem k_Jx4a65c_add_9ea2d (l : Launch) (g : gT) {h : fH} {a ed : Nat} {mc n : Int} (ha : h a = some (.inr (2, [.int (iI mc), .ref ed, .int (iI n)]))) {cap : Nat} {r : Int → Option Nat} (hlb : lb g h ed cap r) {ci : Nat} {rr : vw_C} (hcl : vwCl[ci]? = some rr) (hca : Cond.castable rr.1 "java/lang/Object" ∈ lw_T) (hci : ci ≠ 2) (hel : ∀ i, (0 : Int) ≤ i → i < n → ∀ y, r i = some y → ∃ vs, h y = some (.inr (ci, vs))) {v : Nat} {vs : List Value} (hv : h v = some (.inr (ci, vs))) (hn0 : 0 ≤ n) (hn : n ≤ cap) (hn2 : n ≤ 90) (hc : cap ≤ 150) : CM l g yJx4a65c_add_9ea2d cJx4a65c_add_9ea2d 2 (some .boolean) ({ frames := 7, cells := 1, slots := 150, locals := 170 }) [.ref a, .ref v] (h) (fun w h1 => w = some (.int (iI 1)) ∧ LA g h h1 a ed (mc + 1) (n + 1) cap r (fun r1 => r1 n = some v ∧ ∀ i, 0 ≤ i → i < n → r1 i = r i)) (noX) := by
  refine CM.of (lo := [some (.ref a), some (.ref v)]) (by decide) (Nat.le_of_ble_eq_true rfl) (by simp [Value.category]) rfl ?_
  intro pX eX sX mX bX tX cX AX F htab hmn
  have F : Fx pX l sX mX ([.ref a, .ref v] : List Value).toArray tX cX cJx4a65c_add_9ea2d 2 (some .boolean) RJx4a65c g AX := F
  have ne_v_a : v ≠ a := fun z_ => by rw [z_, ha] at hv; exact hci (by cases hv; rfl)
  refine v_aload_n F (pc := 0) dJx4a65c_add_9ea2d_0 rfl ?_
  refine v_dup F (pc := 1) dJx4a65c_add_9ea2d_1 rfl ?_
  refine v_getf F (pc := 2) fd_Jx4a65c_63_2 (v := .int (iI (mc))) dJx4a65c_add_9ea2d_2 ha rfl ?_
  refine v_iconst F (pc := 5) dJx4a65c_add_9ea2d_5 ?_
  refine v_iadd F (pc := 6) (a := mc) (b := 1) dJx4a65c_add_9ea2d_6 ?_
  refine v_putf F (pc := 7) fp_Jx4a65c_63_2 dJx4a65c_add_9ea2d_7 ha rfl rfl (Nat.le_of_ble_eq_true rfl) (h' := f_up h a (.inr (2, [.int (iI (mc + 1)), .ref ed, .int (iI (n))]))) rfl ?_
  refine v_aload_n F (pc := 10) dJx4a65c_add_9ea2d_10 rfl ?_
  refine v_aload_n F (pc := 11) dJx4a65c_add_9ea2d_11 rfl ?_
  refine v_aload_n F (pc := 12) dJx4a65c_add_9ea2d_12 rfl ?_
  refine v_getf F (pc := 13) fd_Jx4a65c_9_2 (v := .ref ed) dJx4a65c_add_9ea2d_13 (f_up_s _ _ _) rfl ?_
  refine v_aload_n F (pc := 16) dJx4a65c_add_9ea2d_16 rfl ?_
  refine v_getf F (pc := 17) fd_Jx4a65c_48_2 (v := .int (iI (n))) dJx4a65c_add_9ea2d_17 (f_up_s _ _ _) rfl ?_
  refine v_callV F (pc := 20) (As := [.ref v, .ref ed, .int (iI (n))]) (rest := []) ci_Jx4a65c_131 ct_Jx4a65c_add_72be8 cs_Jx4a65c_add_72be8 (k_Jx4a65c_add_72be8 l g (f_up_s _ _ _) (hlb.up ha) hcl hca hci (hel_up hci ha hel) ((f_up_n ne_v_a).trans hv) hn0 hn hn2 hc) dJx4a65c_add_9ea2d_20 (k0 := 2) rfl rfl (f_up_s _ _ _) rfl rfl (Nat.le_of_ble_eq_true rfl) (Nat.le_of_ble_eq_true rfl) (Nat.le_of_ble_eq_true rfl) (Nat.le_of_ble_eq_true rfl) (Nat.le_of_ble_eq_true rfl) (fun v_ h_ hp_ => ?_) (fun _ _ z => z.elim)
  obtain ⟨rfl, hla_⟩ := hp_
  refine v_iconst F (pc := 23) dJx4a65c_add_9ea2d_23 ?_
  refine v_iret F (pc := 24) (z := (iI (1))) dJx4a65c_add_9ea2d_24 rfl (by first | rfl | exact nar_bI _ | decide) (Nat.le_of_ble_eq_true rfl) (Nat.le_of_ble_eq_true rfl) ?_
  exact ⟨rfl, LA.pre ha hla_⟩
-- Jx4a65c_rangeCheckForAdd_d00df
set_option maxRecDepth 100000 in
set_option maxHeartbeats 8000000 in
theorem k_Jx4a65c_rangeCheckForAdd_d00df (l : Launch) (g : gT) {h : fH} {a ed : Nat} {mc n : Int} (ha : h a = some (.inr (2, [.int (iI mc), .ref ed, .int (iI n)]))) {i : Int} (hi : 0 ≤ i ∧ i ≤ n) (hn2 : n ≤ 90) : CM l g yJx4a65c_rangeCheckForAdd_d00df cJx4a65c_rangeCheckForAdd_d00df 2 none ({ frames := 1, cells := 0, slots := 0, locals := 20 }) [.ref a, .int (iI (i))] (h) (pV none h) (noX) := by
  refine CM.of (lo := [some (.ref a), some (.int (iI (i)))]) (by decide) (Nat.le_of_ble_eq_true rfl) (by simp [Value.category]) rfl ?_
  intro pX eX sX mX bX tX cX AX F htab hmn
  have F : Fx pX l sX mX ([.ref a, .int (iI (i))] : List Value).toArray tX cX cJx4a65c_rangeCheckForAdd_d00df 2 none RJx4a65c g AX := F
  refine v_iload_n F (pc := 0) dJx4a65c_rangeCheckForAdd_d00df_0 rfl ?_
  refine v_aload_n F (pc := 1) dJx4a65c_rangeCheckForAdd_d00df_1 rfl ?_
  refine v_getf F (pc := 2) fd_Jx4a65c_48_2 (v := .int (iI (n))) dJx4a65c_rangeCheckForAdd_d00df_2 ha rfl ?_
  refine v_icmp_gt F (pc := 5) (a := i) (b := n) 12 dJx4a65c_rangeCheckForAdd_d00df_5 (by decide) (by omega) (by omega) (fun c_1 => ?_) (fun c_1 => ?_)
  · exact absurd c_1 (by omega)
  · refine v_iload_n F (pc := 8) dJx4a65c_rangeCheckForAdd_d00df_8 rfl ?_
    refine v_if_ge F (pc := 9) (a := i) 25 dJx4a65c_rangeCheckForAdd_d00df_9 (by decide) (by omega) (fun c_2 => ?_) (fun c_2 => ?_)
    · refine v_vret F (pc := 25) dJx4a65c_rangeCheckForAdd_d00df_25 rfl (Nat.le_of_ble_eq_true rfl) (Nat.le_of_ble_eq_true rfl) ?_
      exact ⟨rfl, rfl⟩
    · exact absurd hi.1 c_2
-- Jx4a65c_add_7a177
set_option maxRecDepth 100000 in
set_option maxHeartbeats 8000000 in
theorem k_Jx4a65c_add_7a177 (l : Launch) (g : gT) {h : fH} {a ed : Nat} {mc n : Int} (ha : h a = some (.inr (2, [.int (iI mc), .ref ed, .int (iI n)]))) {cap : Nat} {r : Int → Option Nat} (hlb : lb g h ed cap r) {ci : Nat} {rr : vw_C} (hcl : vwCl[ci]? = some rr) (hca : Cond.castable rr.1 "java/lang/Object" ∈ lw_T) (hci : ci ≠ 2) (hel : ∀ i, (0 : Int) ≤ i → i < n → ∀ y, r i = some y → ∃ vs, h y = some (.inr (ci, vs))) {v : Nat} {vs : List Value} (hv : h v = some (.inr (ci, vs))) (hn0 : 0 ≤ n) (hn : n ≤ cap) (hn2 : n ≤ 90) (hc : cap ≤ 150) {i : Int} (hi : 0 ≤ i ∧ i ≤ n) : CM l g yJx4a65c_add_7a177 cJx4a65c_add_7a177 5 none ({ frames := 6, cells := 1, slots := 150, locals := 147 }) [.ref a, .int (iI (i)), .ref v] (h) (fun w h1 => w = none ∧ LA g h h1 a ed (mc + 1) (n + 1) cap r (fun r1 => (∀ j, 0 ≤ j → j < i → r1 j = r j) ∧ r1 i = some v ∧ ∀ j, i ≤ j → j < n → r1 (j + 1) = r j)) (noX) := by
  refine CM.of (lo := [some (.ref a), some (.int (iI (i))), some (.ref v), none, none]) (by decide) (Nat.le_of_ble_eq_true rfl) (by simp [Value.category]) rfl ?_
  intro pX eX sX mX bX tX cX AX F htab hmn
  have F : Fx pX l sX mX ([.ref a, .int (iI (i)), .ref v] : List Value).toArray tX cX cJx4a65c_add_7a177 5 none RJx4a65c g AX := F
  have ne_v_a : v ≠ a := fun z_ => by rw [z_, ha] at hv; exact hci (by cases hv; rfl)
  refine v_aload_n F (pc := 0) dJx4a65c_add_7a177_0 rfl ?_
  refine v_iload_n F (pc := 1) dJx4a65c_add_7a177_1 rfl ?_
  refine v_callVn F (pc := 2) (As := [.int (iI (i))]) (rest := []) ci_Jx4a65c_135 ct_Jx4a65c_rangeCheckForAdd_d00df cs_Jx4a65c_rangeCheckForAdd_d00df (k_Jx4a65c_rangeCheckForAdd_d00df l g ha hi hn2) dJx4a65c_add_7a177_2 (k0 := 2) rfl rfl ha rfl rfl (Nat.le_of_ble_eq_true rfl) (Nat.le_of_ble_eq_true rfl) (Nat.le_of_ble_eq_true rfl) (Nat.le_of_ble_eq_true rfl) (Nat.le_of_ble_eq_true rfl) ?_ (fun _ _ z => z.elim)
  refine v_aload_n F (pc := 5) dJx4a65c_add_7a177_5 rfl ?_
  refine v_dup F (pc := 6) dJx4a65c_add_7a177_6 rfl ?_
  refine v_getf F (pc := 7) fd_Jx4a65c_63_2 (v := .int (iI (mc))) dJx4a65c_add_7a177_7 ha rfl ?_
  refine v_iconst F (pc := 10) dJx4a65c_add_7a177_10 ?_
  refine v_iadd F (pc := 11) (a := mc) (b := 1) dJx4a65c_add_7a177_11 ?_
  refine v_putf F (pc := 12) fp_Jx4a65c_63_2 dJx4a65c_add_7a177_12 ha rfl rfl (Nat.le_of_ble_eq_true rfl) (h' := f_up h a (.inr (2, [.int (iI (mc + 1)), .ref ed, .int (iI (n))]))) rfl ?_
  refine v_aload_n F (pc := 15) dJx4a65c_add_7a177_15 rfl ?_
  refine v_getf F (pc := 16) fd_Jx4a65c_48_2 (v := .int (iI (n))) dJx4a65c_add_7a177_16 (f_up_s _ _ _) rfl ?_
  refine v_dup F (pc := 19) dJx4a65c_add_7a177_19 rfl ?_
  refine v_istore_n F (pc := 20) (lo' := [some (.ref a), some (.int (iI (i))), some (.ref v), some (.int (iI (n))), none]) dJx4a65c_add_7a177_20 (Nat.le_of_ble_eq_true rfl) rfl ?_
  refine v_aload_n F (pc := 21) dJx4a65c_add_7a177_21 rfl ?_
  refine v_getf F (pc := 22) fd_Jx4a65c_9_2 (v := .ref ed) dJx4a65c_add_7a177_22 (f_up_s _ _ _) rfl ?_
  refine v_dup F (pc := 25) dJx4a65c_add_7a177_25 rfl ?_
  refine v_astore F (pc := 26) (lo' := [some (.ref a), some (.int (iI (i))), some (.ref v), some (.int (iI (n))), some (.ref ed)]) dJx4a65c_add_7a177_26 (Nat.le_of_ble_eq_true rfl) rfl ?_
  refine v_alenL F (pc := 28) (cap := cap) dJx4a65c_add_7a177_28 (hlb.up ha) ?_
  refine v_icmp_ne F (pc := 29) (a := n) (b := (cap : Nat)) 38 dJx4a65c_add_7a177_29 (by decide) (by omega) (by omega) (fun c_1 => ?_) (fun c_1 => ?_)
  · have hed := hlb.pos (by omega)
    have ne_ed_a : ed ≠ a := lb.ne hed ha
    have ne_v_ed : v ≠ ed := fun z_ => by rw [z_, hed] at hv; cases hv
    refine v_aload F (pc := 38) dJx4a65c_add_7a177_38 rfl ?_
    refine v_iload_n F (pc := 40) dJx4a65c_add_7a177_40 rfl ?_
    refine v_aload F (pc := 41) dJx4a65c_add_7a177_41 rfl ?_
    refine v_iload_n F (pc := 43) dJx4a65c_add_7a177_43 rfl ?_
    refine v_iconst F (pc := 44) dJx4a65c_add_7a177_44 ?_
    refine v_iadd F (pc := 45) (a := i) (b := 1) dJx4a65c_add_7a177_45 ?_
    refine v_iload_n F (pc := 46) dJx4a65c_add_7a177_46 rfl ?_
    refine v_iload_n F (pc := 47) dJx4a65c_add_7a177_47 rfl ?_
    refine v_isub F (pc := 48) (a := n) (b := i) dJx4a65c_add_7a177_48 ?_
    refine v_copyq F (pc := 49) (n0 := cap) (n1 := cap) (f := r) (f1 := r) (sp := i) (dp := i + 1) (n := n - i) jw_ac_Jx4a65c_112 jw_nat jw_stat jw_ini dJx4a65c_add_7a177_49 ((f_up_n ne_ed_a).trans hed) ((f_up_n ne_ed_a).trans hed) (by omega) (by omega) (by omega) (by omega) (by omega) (by omega) (by omega) hcl hca (fun j q1 q2 y qy => hel_up hci ha hel j (by omega) (by omega) y qy) (Nat.le_of_ble_eq_true rfl) (Nat.le_of_ble_eq_true rfl) (h' := f_up (f_up h a (.inr (2, [.int (iI (mc + 1)), .ref ed, .int (iI (n))]))) ed (qar (g.2.1 2) cap (icp r r i (i + 1) (n - i)))) rfl ?_
    refine v_aload F (pc := 52) dJx4a65c_add_7a177_52 rfl ?_
    refine v_iload_n F (pc := 54) dJx4a65c_add_7a177_54 rfl ?_
    refine v_aload_n F (pc := 55) dJx4a65c_add_7a177_55 rfl ?_
    refine v_astq F (pc := 56) (n := cap) (r := icp r r i (i + 1) (n - i)) (z := i) dJx4a65c_add_7a177_56 (f_up_s _ _ _) (by omega) (by omega) ((f_up_n ne_v_ed).trans ((f_up_n ne_v_a).trans hv)) hcl hca (h' := f_up (f_up h a (.inr (2, [.int (iI (mc + 1)), .ref ed, .int (iI (n))]))) ed (qar (g.2.1 2) cap (iup (icp r r i (i + 1) (n - i)) i (some v)))) (f_up_up _ _ _ _) ?_
    refine v_aload_n F (pc := 57) dJx4a65c_add_7a177_57 rfl ?_
    refine v_iload_n F (pc := 58) dJx4a65c_add_7a177_58 rfl ?_
    refine v_iconst F (pc := 59) dJx4a65c_add_7a177_59 ?_
    refine v_iadd F (pc := 60) (a := n) (b := 1) dJx4a65c_add_7a177_60 ?_
    refine v_putf F (pc := 61) fp_Jx4a65c_48_2 dJx4a65c_add_7a177_61 ((f_up_n (Ne.symm ne_ed_a)).trans (f_up_s _ _ _)) rfl rfl (Nat.le_of_ble_eq_true rfl) (h' := f_up (f_up h a (.inr (2, [.int (iI (mc + 1)), .ref ed, .int (iI (n + 1))]))) ed (qar (g.2.1 2) cap (iup (icp r r i (i + 1) (n - i)) i (some v)))) (f_up_up1 ne_ed_a _ _ _ _) ?_
    refine v_vret F (pc := 64) dJx4a65c_add_7a177_64 rfl (Nat.le_of_ble_eq_true rfl) (Nat.le_of_ble_eq_true rfl) ?_
    refine ⟨rfl, ed, cap, iup (icp r r i (i + 1) (n - i)) i (some v), ?_, Or.inl ⟨rfl, rfl, hed⟩, by omega, by omega, fun j q1 q2 => (iup_n (by omega)).trans (icp_out (by omega)), iup_s _ _ _, fun j q1 q2 => (iup_n (by omega)).trans ((icp_in (by omega) (by omega)).trans (congrArg r (by omega)))⟩
    exact f_up_cm ne_ed_a _ _ _
  · refine v_aload_n F (pc := 32) dJx4a65c_add_7a177_32 rfl ?_
    refine v_callV F (pc := 33) (As := []) (rest := []) ci_Jx4a65c_129 ct_Jx4a65c_grow_d5877 cs_Jx4a65c_grow_d5877 (k_Jx4a65c_grow_d5877 l g (f_up_s _ _ _) (hlb.up ha) hcl hca hci (hel_up hci ha hel) (by omega) (by omega)) dJx4a65c_add_7a177_33 (k0 := 2) rfl rfl (f_up_s _ _ _) rfl rfl (Nat.le_of_ble_eq_true rfl) (Nat.le_of_ble_eq_true rfl) (Nat.le_of_ble_eq_true rfl) (Nat.le_of_ble_eq_true rfl) (Nat.le_of_ble_eq_true rfl) (fun v_ h_ hp_ => ?_) (fun _ _ z => z.elim)
    obtain ⟨q_9, N, r1, nq0_, rfl, hh_, hN1, hN2, hr1⟩ := hp_
    have ne_a_q : a ≠ q_9 := fun z_ => by rw [← z_, f_up_s] at nq0_; cases nq0_
    rw [f_up_n (Ne.symm ne_a_q)] at nq0_
    have nq_9 : h q_9 = none := nq0_
    rw [f_norm (Ne.symm ne_a_q)] at hh_
    subst hh_
    have ne_v_q : v ≠ q_9 := fun z_ => by rw [z_, nq_9] at hv; cases hv
    refine v_astore F (pc := 36) (lo' := [some (.ref a), some (.int (iI (i))), some (.ref v), some (.int (iI (n))), some (.ref q_9)]) dJx4a65c_add_7a177_36 (Nat.le_of_ble_eq_true rfl) rfl ?_
    refine v_aload F (pc := 38) dJx4a65c_add_7a177_38 rfl ?_
    refine v_iload_n F (pc := 40) dJx4a65c_add_7a177_40 rfl ?_
    refine v_aload F (pc := 41) dJx4a65c_add_7a177_41 rfl ?_
    refine v_iload_n F (pc := 43) dJx4a65c_add_7a177_43 rfl ?_
    refine v_iconst F (pc := 44) dJx4a65c_add_7a177_44 ?_
    refine v_iadd F (pc := 45) (a := i) (b := 1) dJx4a65c_add_7a177_45 ?_
    refine v_iload_n F (pc := 46) dJx4a65c_add_7a177_46 rfl ?_
    refine v_iload_n F (pc := 47) dJx4a65c_add_7a177_47 rfl ?_
    refine v_isub F (pc := 48) (a := n) (b := i) dJx4a65c_add_7a177_48 ?_
    refine v_copyq F (pc := 49) (n0 := N) (n1 := N) (f := r1) (f1 := r1) (sp := i) (dp := i + 1) (n := n - i) jw_ac_Jx4a65c_112 jw_nat jw_stat jw_ini dJx4a65c_add_7a177_49 ((f_up_n (Ne.symm ne_a_q)).trans (f_up_s _ _ _)) ((f_up_n (Ne.symm ne_a_q)).trans (f_up_s _ _ _)) (by omega) (by omega) (by omega) (by omega) (by omega) (by omega) (by omega) hcl hca (fun j q1 q2 y qy => hel_up hci ((f_up_n ne_a_q).trans ha) (hel_new nq_9 hel) j (by omega) (by omega) y ((hr1 j (by omega) (by omega)).symm.trans qy)) (Nat.le_of_ble_eq_true rfl) (Nat.le_of_ble_eq_true rfl) (h' := f_up (f_up h q_9 (qar (g.2.1 2) N (icp r1 r1 i (i + 1) (n - i)))) a (.inr (2, [.int (iI (mc + 1)), .ref q_9, .int (iI (n))]))) (f_up_up1 ne_a_q _ _ _ _) ?_
    refine v_aload F (pc := 52) dJx4a65c_add_7a177_52 rfl ?_
    refine v_iload_n F (pc := 54) dJx4a65c_add_7a177_54 rfl ?_
    refine v_aload_n F (pc := 55) dJx4a65c_add_7a177_55 rfl ?_
    refine v_astq F (pc := 56) (n := N) (r := icp r1 r1 i (i + 1) (n - i)) (z := i) dJx4a65c_add_7a177_56 ((f_up_n (Ne.symm ne_a_q)).trans (f_up_s _ _ _)) (by omega) (by omega) ((f_up_n ne_v_a).trans ((f_up_n ne_v_q).trans hv)) hcl hca (h' := f_up (f_up h q_9 (qar (g.2.1 2) N (iup (icp r1 r1 i (i + 1) (n - i)) i (some v)))) a (.inr (2, [.int (iI (mc + 1)), .ref q_9, .int (iI (n))]))) (f_up_up1 ne_a_q _ _ _ _) ?_
    refine v_aload_n F (pc := 57) dJx4a65c_add_7a177_57 rfl ?_
    refine v_iload_n F (pc := 58) dJx4a65c_add_7a177_58 rfl ?_
    refine v_iconst F (pc := 59) dJx4a65c_add_7a177_59 ?_
    refine v_iadd F (pc := 60) (a := n) (b := 1) dJx4a65c_add_7a177_60 ?_
    refine v_putf F (pc := 61) fp_Jx4a65c_48_2 dJx4a65c_add_7a177_61 (f_up_s _ _ _) rfl rfl (Nat.le_of_ble_eq_true rfl) (h' := f_up (f_up h q_9 (qar (g.2.1 2) N (iup (icp r1 r1 i (i + 1) (n - i)) i (some v)))) a (.inr (2, [.int (iI (mc + 1)), .ref q_9, .int (iI (n + 1))]))) (f_up_up _ _ _ _) ?_
    refine v_vret F (pc := 64) dJx4a65c_add_7a177_64 rfl (Nat.le_of_ble_eq_true rfl) (Nat.le_of_ble_eq_true rfl) ?_
    refine ⟨rfl, q_9, N, iup (icp r1 r1 i (i + 1) (n - i)) i (some v), ?_, Or.inr nq_9, by omega, by omega, fun j q1 q2 => ((iup_n (by omega)).trans (icp_out (by omega))).trans (hr1 _ (by omega) (by omega)), iup_s _ _ _, fun j q1 q2 => ((iup_n (by omega)).trans ((icp_in (by omega) (by omega)).trans (congrArg r1 (by omega)))).trans (hr1 _ (by omega) (by omega))⟩
    rfl
-- Jx4a65c_fastRemove_b59b0
set_option maxRecDepth 100000 in
set_option maxHeartbeats 8000000 in
theorem k_Jx4a65c_fastRemove_b59b0 (l : Launch) (g : gT) {h : fH} {a ed : Nat} {mc n : Int} (ha : h a = some (.inr (2, [.int (iI mc), .ref ed, .int (iI n)]))) {cap : Nat} {r : Int → Option Nat} (hed : h ed = some (qar (g.2.1 2) cap r)) {ci : Nat} {rr : vw_C} (hcl : vwCl[ci]? = some rr) (hca : Cond.castable rr.1 "java/lang/Object" ∈ lw_T) (hci : ci ≠ 2) (hel : ∀ i, (0 : Int) ≤ i → i < n → ∀ y, r i = some y → ∃ vs, h y = some (.inr (ci, vs))) (hn : n ≤ cap) (hn2 : n ≤ 90) (hc : cap ≤ 150) {i : Int} (hi : 0 ≤ i ∧ i < n) : CM l g yJx4a65c_fastRemove_b59b0 cJx4a65c_fastRemove_b59b0 4 none ({ frames := 2, cells := 0, slots := 0, locals := 60 }) [.ref a, .ref ed, .int (iI (i))] (h) (fun w h1 => w = none ∧ LA1 g h h1 a ed (mc + 1) (n - 1) cap (fun r1 => (∀ j, 0 ≤ j → j < i → r1 j = r j) ∧ ∀ j, i ≤ j → j < n - 1 → r1 j = r (j + 1))) (noX) := by
  refine CM.of (lo := [some (.ref a), some (.ref ed), some (.int (iI (i))), none]) (by decide) (Nat.le_of_ble_eq_true rfl) (by simp [Value.category]) rfl ?_
  intro pX eX sX mX bX tX cX AX F htab hmn
  have F : Fx pX l sX mX ([.ref a, .ref ed, .int (iI (i))] : List Value).toArray tX cX cJx4a65c_fastRemove_b59b0 4 none RJx4a65c g AX := F
  have ne_ed_a : ed ≠ a := lb.ne hed ha
  refine v_aload_n F (pc := 0) dJx4a65c_fastRemove_b59b0_0 rfl ?_
  refine v_dup F (pc := 1) dJx4a65c_fastRemove_b59b0_1 rfl ?_
  refine v_getf F (pc := 2) fd_Jx4a65c_63_2 (v := .int (iI (mc))) dJx4a65c_fastRemove_b59b0_2 ha rfl ?_
  refine v_iconst F (pc := 5) dJx4a65c_fastRemove_b59b0_5 ?_
  refine v_iadd F (pc := 6) (a := mc) (b := 1) dJx4a65c_fastRemove_b59b0_6 ?_
  refine v_putf F (pc := 7) fp_Jx4a65c_63_2 dJx4a65c_fastRemove_b59b0_7 ha rfl rfl (Nat.le_of_ble_eq_true rfl) (h' := f_up h a (.inr (2, [.int (iI (mc + 1)), .ref ed, .int (iI (n))]))) rfl ?_
  refine v_aload_n F (pc := 10) dJx4a65c_fastRemove_b59b0_10 rfl ?_
  refine v_getf F (pc := 11) fd_Jx4a65c_48_2 (v := .int (iI (n))) dJx4a65c_fastRemove_b59b0_11 (f_up_s _ _ _) rfl ?_
  refine v_iconst F (pc := 14) dJx4a65c_fastRemove_b59b0_14 ?_
  refine v_isub F (pc := 15) (a := n) (b := 1) dJx4a65c_fastRemove_b59b0_15 ?_
  refine v_dup F (pc := 16) dJx4a65c_fastRemove_b59b0_16 rfl ?_
  refine v_istore_n F (pc := 17) (lo' := [some (.ref a), some (.ref ed), some (.int (iI (i))), some (.int (iI (n - 1)))]) dJx4a65c_fastRemove_b59b0_17 (Nat.le_of_ble_eq_true rfl) rfl ?_
  refine v_iload_n F (pc := 18) dJx4a65c_fastRemove_b59b0_18 rfl ?_
  refine v_icmp_le F (pc := 19) (a := n - 1) (b := i) 34 dJx4a65c_fastRemove_b59b0_19 (by decide) (by omega) (by omega) (fun c_1 => ?_) (fun c_1 => ?_)
  · refine v_aload_n F (pc := 34) dJx4a65c_fastRemove_b59b0_34 rfl ?_
    refine v_aload_n F (pc := 35) dJx4a65c_fastRemove_b59b0_35 rfl ?_
    refine v_iload_n F (pc := 36) dJx4a65c_fastRemove_b59b0_36 rfl ?_
    refine v_dup_x1 F (pc := 37) dJx4a65c_fastRemove_b59b0_37 rfl rfl ?_
    refine v_putf F (pc := 38) fp_Jx4a65c_48_2 dJx4a65c_fastRemove_b59b0_38 (f_up_s _ _ _) rfl rfl (Nat.le_of_ble_eq_true rfl) (h' := f_up h a (.inr (2, [.int (iI (mc + 1)), .ref ed, .int (iI (n - 1))]))) (f_up_up _ _ _ _) ?_
    refine v_null F (pc := 41) dJx4a65c_fastRemove_b59b0_41 ?_
    refine v_astN F (pc := 42) (n := cap) (r := r) (z := n - 1) dJx4a65c_fastRemove_b59b0_42 ((f_up_n ne_ed_a).trans hed) (by omega) (by omega) (h' := f_up (f_up h a (.inr (2, [.int (iI (mc + 1)), .ref ed, .int (iI (n - 1))]))) ed (qar (g.2.1 2) cap (iup r (n - 1) none))) rfl ?_
    refine v_vret F (pc := 43) dJx4a65c_fastRemove_b59b0_43 rfl (Nat.le_of_ble_eq_true rfl) (Nat.le_of_ble_eq_true rfl) ?_
    exact ⟨rfl, _, (f_up_cm ne_ed_a _ _ _), fun j q1 q2 => iup_n (by omega), fun j q1 q2 => by omega⟩
  · refine v_aload_n F (pc := 22) dJx4a65c_fastRemove_b59b0_22 rfl ?_
    refine v_iload_n F (pc := 23) dJx4a65c_fastRemove_b59b0_23 rfl ?_
    refine v_iconst F (pc := 24) dJx4a65c_fastRemove_b59b0_24 ?_
    refine v_iadd F (pc := 25) (a := i) (b := 1) dJx4a65c_fastRemove_b59b0_25 ?_
    refine v_aload_n F (pc := 26) dJx4a65c_fastRemove_b59b0_26 rfl ?_
    refine v_iload_n F (pc := 27) dJx4a65c_fastRemove_b59b0_27 rfl ?_
    refine v_iload_n F (pc := 28) dJx4a65c_fastRemove_b59b0_28 rfl ?_
    refine v_iload_n F (pc := 29) dJx4a65c_fastRemove_b59b0_29 rfl ?_
    refine v_isub F (pc := 30) (a := n - 1) (b := i) dJx4a65c_fastRemove_b59b0_30 ?_
    refine v_copyq F (pc := 31) (n0 := cap) (n1 := cap) (f := r) (f1 := r) (sp := i + 1) (dp := i) (n := (n - 1) - i) jw_ac_Jx4a65c_112 jw_nat jw_stat jw_ini dJx4a65c_fastRemove_b59b0_31 ((f_up_n ne_ed_a).trans hed) ((f_up_n ne_ed_a).trans hed) (by omega) (by omega) (by omega) (by omega) (by omega) (by omega) (by omega) hcl hca (fun j q1 q2 y qy => hel_up hci ha hel j (by omega) (by omega) y qy) (Nat.le_of_ble_eq_true rfl) (Nat.le_of_ble_eq_true rfl) (h' := f_up (f_up h a (.inr (2, [.int (iI (mc + 1)), .ref ed, .int (iI (n))]))) ed (qar (g.2.1 2) cap (icp r r (i + 1) i ((n - 1) - i)))) rfl ?_
    refine v_aload_n F (pc := 34) dJx4a65c_fastRemove_b59b0_34 rfl ?_
    refine v_aload_n F (pc := 35) dJx4a65c_fastRemove_b59b0_35 rfl ?_
    refine v_iload_n F (pc := 36) dJx4a65c_fastRemove_b59b0_36 rfl ?_
    refine v_dup_x1 F (pc := 37) dJx4a65c_fastRemove_b59b0_37 rfl rfl ?_
    refine v_putf F (pc := 38) fp_Jx4a65c_48_2 dJx4a65c_fastRemove_b59b0_38 ((f_up_n (Ne.symm ne_ed_a)).trans (f_up_s _ _ _)) rfl rfl (Nat.le_of_ble_eq_true rfl) (h' := f_up (f_up h a (.inr (2, [.int (iI (mc + 1)), .ref ed, .int (iI (n - 1))]))) ed (qar (g.2.1 2) cap (icp r r (i + 1) i ((n - 1) - i)))) (f_up_up1 ne_ed_a _ _ _ _) ?_
    refine v_null F (pc := 41) dJx4a65c_fastRemove_b59b0_41 ?_
    refine v_astN F (pc := 42) (n := cap) (r := icp r r (i + 1) i ((n - 1) - i)) (z := n - 1) dJx4a65c_fastRemove_b59b0_42 (f_up_s _ _ _) (by omega) (by omega) (h' := f_up (f_up h a (.inr (2, [.int (iI (mc + 1)), .ref ed, .int (iI (n - 1))]))) ed (qar (g.2.1 2) cap (iup (icp r r (i + 1) i ((n - 1) - i)) (n - 1) none))) (f_up_up _ _ _ _) ?_
    refine v_vret F (pc := 43) dJx4a65c_fastRemove_b59b0_43 rfl (Nat.le_of_ble_eq_true rfl) (Nat.le_of_ble_eq_true rfl) ?_
    exact ⟨rfl, _, (f_up_cm ne_ed_a _ _ _), fun j q1 q2 => (iup_n (by omega)).trans (icp_out (by omega)), fun j q1 q2 => (iup_n (by omega)).trans ((icp_in (by omega) (by omega)).trans (congrArg r (by omega)))⟩
-- Jx4a65c_remove_915e3
set_option maxRecDepth 100000 in
set_option maxHeartbeats 8000000 in
theorem k_Jx4a65c_remove_915e3 (l : Launch) (g : gT) {h : fH} {a ed : Nat} {mc n : Int} (ha : h a = some (.inr (2, [.int (iI mc), .ref ed, .int (iI n)]))) {cap : Nat} {r : Int → Option Nat} (hed : h ed = some (qar (g.2.1 2) cap r)) {ci : Nat} {rr : vw_C} (hcl : vwCl[ci]? = some rr) (hca : Cond.castable rr.1 "java/lang/Object" ∈ lw_T) (hci : ci ≠ 2) (hel : ∀ i, (0 : Int) ≤ i → i < n → ∀ y, r i = some y → ∃ vs, h y = some (.inr (ci, vs))) (hn : n ≤ cap) (hn2 : n ≤ 90) (hc : cap ≤ 150) {i : Int} (hi : 0 ≤ i ∧ i < n) {q : Nat} (hq : r i = some q) : CM l g yJx4a65c_remove_915e3 cJx4a65c_remove_915e3 4 (some (.object "java/lang/Object")) ({ frames := 3, cells := 0, slots := 0, locals := 83 }) [.ref a, .int (iI (i))] (h) (fun w h1 => w = some (.ref q) ∧ LA1 g h h1 a ed (mc + 1) (n - 1) cap (fun r1 => (∀ j, 0 ≤ j → j < i → r1 j = r j) ∧ ∀ j, i ≤ j → j < n - 1 → r1 j = r (j + 1))) (noX) := by
  refine CM.of (lo := [some (.ref a), some (.int (iI (i))), none, none]) (by decide) (Nat.le_of_ble_eq_true rfl) (by simp [Value.category]) rfl ?_
  intro pX eX sX mX bX tX cX AX F htab hmn
  have F : Fx pX l sX mX ([.ref a, .int (iI (i))] : List Value).toArray tX cX cJx4a65c_remove_915e3 4 (some (.object "java/lang/Object")) RJx4a65c g AX := F
  refine v_iload_n F (pc := 0) dJx4a65c_remove_915e3_0 rfl ?_
  refine v_aload_n F (pc := 1) dJx4a65c_remove_915e3_1 rfl ?_
  refine v_getf F (pc := 2) fd_Jx4a65c_48_2 (v := .int (iI (n))) dJx4a65c_remove_915e3_2 ha rfl ?_
  refine v_callSp F (pc := 5) (As := [.int (iI (i)), .int (iI (n))]) (rest := []) ci_Jx4a65c_118 ct_J15_checkIndex_7cf53 (k_J15_checkIndex_7cf53 l g i n (by omega)) dJx4a65c_remove_915e3_5 rfl rfl (Nat.le_of_ble_eq_true rfl) (Nat.le_of_ble_eq_true rfl) (Nat.le_of_ble_eq_true rfl) (Nat.le_of_ble_eq_true rfl) (Nat.le_of_ble_eq_true rfl) ?_ (fun _ _ z => z.elim)
  refine v_pop F (pc := 8) dJx4a65c_remove_915e3_8 rfl ?_
  refine v_aload_n F (pc := 9) dJx4a65c_remove_915e3_9 rfl ?_
  refine v_getf F (pc := 10) fd_Jx4a65c_9_2 (v := .ref ed) dJx4a65c_remove_915e3_10 ha rfl ?_
  refine v_astore_n F (pc := 13) (lo' := [some (.ref a), some (.int (iI (i))), some (.ref ed), none]) dJx4a65c_remove_915e3_13 (Nat.le_of_ble_eq_true rfl) rfl ?_
  refine v_aload_n F (pc := 14) dJx4a65c_remove_915e3_14 rfl ?_
  refine v_iload_n F (pc := 15) dJx4a65c_remove_915e3_15 rfl ?_
  refine v_aald F (pc := 16) (n := cap) (r := r) (z := i) (q := q) dJx4a65c_remove_915e3_16 hed (by omega) (by omega) hq ?_
  refine v_astore_n F (pc := 17) (lo' := [some (.ref a), some (.int (iI (i))), some (.ref ed), some (.ref q)]) dJx4a65c_remove_915e3_17 (Nat.le_of_ble_eq_true rfl) rfl ?_
  refine v_aload_n F (pc := 18) dJx4a65c_remove_915e3_18 rfl ?_
  refine v_aload_n F (pc := 19) dJx4a65c_remove_915e3_19 rfl ?_
  refine v_iload_n F (pc := 20) dJx4a65c_remove_915e3_20 rfl ?_
  refine v_callV F (pc := 21) (As := [.ref ed, .int (iI (i))]) (rest := []) ci_Jx4a65c_144 ct_Jx4a65c_fastRemove_b59b0 cs_Jx4a65c_fastRemove_b59b0 (k_Jx4a65c_fastRemove_b59b0 l g ha hed hcl hca hci hel hn hn2 hc hi) dJx4a65c_remove_915e3_21 (k0 := 2) rfl rfl ha rfl rfl (Nat.le_of_ble_eq_true rfl) (Nat.le_of_ble_eq_true rfl) (Nat.le_of_ble_eq_true rfl) (Nat.le_of_ble_eq_true rfl) (Nat.le_of_ble_eq_true rfl) (fun v_ h_ hp_ => ?_) (fun _ _ z => z.elim)
  obtain ⟨rfl, hla_⟩ := hp_
  refine v_aload_n F (pc := 24) dJx4a65c_remove_915e3_24 rfl ?_
  refine v_aret F (pc := 25) dJx4a65c_remove_915e3_25 rfl (Or.inl ⟨_, rfl⟩) (Nat.le_of_ble_eq_true rfl) (Nat.le_of_ble_eq_true rfl) ?_
  exact ⟨rfl, hla_⟩
-- Jx4a65c_clear_da8c8
set_option maxRecDepth 100000 in
set_option maxHeartbeats 8000000 in
theorem k_clear0 (l : Launch) (g : gT) {h : fH} {a ed : Nat} {mc n : Int} (ha : h a = some (.inr (2, [.int (iI mc), .ref ed, .int (iI n)]))) (hn : n = 0) : CM l g yJx4a65c_clear_da8c8 cJx4a65c_clear_da8c8 4 none ({ frames := 1, cells := 0, slots := 0, locals := 20 }) [.ref a] (h) (pV none (f_up h a (.inr (2, [.int (iI (mc + 1)), .ref ed, .int (iI 0)])))) (noX) := by
  refine CM.of (lo := [some (.ref a), none, none, none]) (by decide) (Nat.le_of_ble_eq_true rfl) (by simp [Value.category]) rfl ?_
  intro pX eX sX mX bX tX cX AX F htab hmn
  have F : Fx pX l sX mX ([.ref a] : List Value).toArray tX cX cJx4a65c_clear_da8c8 4 none RJx4a65c g AX := F
  refine v_aload_n F (pc := 0) dJx4a65c_clear_da8c8_0 rfl ?_
  refine v_dup F (pc := 1) dJx4a65c_clear_da8c8_1 rfl ?_
  refine v_getf F (pc := 2) fd_Jx4a65c_63_2 (v := .int (iI (mc))) dJx4a65c_clear_da8c8_2 ha rfl ?_
  refine v_iconst F (pc := 5) dJx4a65c_clear_da8c8_5 ?_
  refine v_iadd F (pc := 6) (a := mc) (b := 1) dJx4a65c_clear_da8c8_6 ?_
  refine v_putf F (pc := 7) fp_Jx4a65c_63_2 dJx4a65c_clear_da8c8_7 ha rfl rfl (Nat.le_of_ble_eq_true rfl) (h' := f_up h a (.inr (2, [.int (iI (mc + 1)), .ref ed, .int (iI (n))]))) rfl ?_
  refine v_aload_n F (pc := 10) dJx4a65c_clear_da8c8_10 rfl ?_
  refine v_getf F (pc := 11) fd_Jx4a65c_9_2 (v := .ref ed) dJx4a65c_clear_da8c8_11 (f_up_s _ _ _) rfl ?_
  refine v_astore_n F (pc := 14) (lo' := [some (.ref a), some (.ref ed), none, none]) dJx4a65c_clear_da8c8_14 (Nat.le_of_ble_eq_true rfl) rfl ?_
  refine v_aload_n F (pc := 15) dJx4a65c_clear_da8c8_15 rfl ?_
  refine v_getf F (pc := 16) fd_Jx4a65c_48_2 (v := .int (iI (n))) dJx4a65c_clear_da8c8_16 (f_up_s _ _ _) rfl ?_
  refine v_istore_n F (pc := 19) (lo' := [some (.ref a), some (.ref ed), some (.int (iI (n))), none]) dJx4a65c_clear_da8c8_19 (Nat.le_of_ble_eq_true rfl) rfl ?_
  refine v_aload_n F (pc := 20) dJx4a65c_clear_da8c8_20 rfl ?_
  refine v_iconst F (pc := 21) dJx4a65c_clear_da8c8_21 ?_
  refine v_dup_x1 F (pc := 22) dJx4a65c_clear_da8c8_22 rfl rfl ?_
  refine v_putf F (pc := 23) fp_Jx4a65c_48_2 dJx4a65c_clear_da8c8_23 (f_up_s _ _ _) rfl rfl (Nat.le_of_ble_eq_true rfl) (h' := f_up h a (.inr (2, [.int (iI (mc + 1)), .ref ed, .int (iI (0))]))) (f_up_up _ _ _ _) ?_
  refine v_istore_n F (pc := 26) (lo' := [some (.ref a), some (.ref ed), some (.int (iI (n))), some (.int (iI (0)))]) dJx4a65c_clear_da8c8_26 (Nat.le_of_ble_eq_true rfl) rfl ?_
  refine v_iload_n F (pc := 27) dJx4a65c_clear_da8c8_27 rfl ?_
  refine v_iload_n F (pc := 28) dJx4a65c_clear_da8c8_28 rfl ?_
  refine v_icmp_ge F (pc := 29) (a := 0) (b := n) 42 dJx4a65c_clear_da8c8_29 (by decide) (by omega) (by omega) (fun c_1 => ?_) (fun c_1 => ?_)
  · refine v_vret F (pc := 42) dJx4a65c_clear_da8c8_42 rfl (Nat.le_of_ble_eq_true rfl) (Nat.le_of_ble_eq_true rfl) ?_
    exact ⟨rfl, rfl⟩
  · exact absurd (by omega) c_1
-- Jx4a65c_clear_da8c8
set_option maxRecDepth 100000 in
set_option maxHeartbeats 8000000 in
theorem k_clearB (l : Launch) (g : gT) {h : fH} {a ed : Nat} {mc n : Int} (ha : h a = some (.inr (2, [.int (iI mc), .ref ed, .int (iI n)]))) {cap : Nat} {r : Int → Option Nat} (hed : h ed = some (qar (g.2.1 2) cap r)) (hn0 : 0 ≤ n) (hn : n ≤ cap) (hn2 : n ≤ 90) (hc : cap ≤ 150) : CM l g yJx4a65c_clear_da8c8 cJx4a65c_clear_da8c8 4 none ({ frames := 1, cells := 0, slots := 0, locals := 20 }) [.ref a] (h) (fun w h1 => w = none ∧ LA1 g h h1 a ed (mc + 1) 0 cap (fun _ => True)) (noX) := by
  refine CM.of (lo := [some (.ref a), none, none, none]) (by decide) (Nat.le_of_ble_eq_true rfl) (by simp [Value.category]) rfl ?_
  intro pX eX sX mX bX tX cX AX F htab hmn
  have F : Fx pX l sX mX ([.ref a] : List Value).toArray tX cX cJx4a65c_clear_da8c8 4 none RJx4a65c g AX := F
  have ne_ed_a : ed ≠ a := lb.ne hed ha
  refine v_aload_n F (pc := 0) dJx4a65c_clear_da8c8_0 rfl ?_
  refine v_dup F (pc := 1) dJx4a65c_clear_da8c8_1 rfl ?_
  refine v_getf F (pc := 2) fd_Jx4a65c_63_2 (v := .int (iI (mc))) dJx4a65c_clear_da8c8_2 ha rfl ?_
  refine v_iconst F (pc := 5) dJx4a65c_clear_da8c8_5 ?_
  refine v_iadd F (pc := 6) (a := mc) (b := 1) dJx4a65c_clear_da8c8_6 ?_
  refine v_putf F (pc := 7) fp_Jx4a65c_63_2 dJx4a65c_clear_da8c8_7 ha rfl rfl (Nat.le_of_ble_eq_true rfl) (h' := f_up h a (.inr (2, [.int (iI (mc + 1)), .ref ed, .int (iI (n))]))) rfl ?_
  refine v_aload_n F (pc := 10) dJx4a65c_clear_da8c8_10 rfl ?_
  refine v_getf F (pc := 11) fd_Jx4a65c_9_2 (v := .ref ed) dJx4a65c_clear_da8c8_11 (f_up_s _ _ _) rfl ?_
  refine v_astore_n F (pc := 14) (lo' := [some (.ref a), some (.ref ed), none, none]) dJx4a65c_clear_da8c8_14 (Nat.le_of_ble_eq_true rfl) rfl ?_
  refine v_aload_n F (pc := 15) dJx4a65c_clear_da8c8_15 rfl ?_
  refine v_getf F (pc := 16) fd_Jx4a65c_48_2 (v := .int (iI (n))) dJx4a65c_clear_da8c8_16 (f_up_s _ _ _) rfl ?_
  refine v_istore_n F (pc := 19) (lo' := [some (.ref a), some (.ref ed), some (.int (iI (n))), none]) dJx4a65c_clear_da8c8_19 (Nat.le_of_ble_eq_true rfl) rfl ?_
  refine v_aload_n F (pc := 20) dJx4a65c_clear_da8c8_20 rfl ?_
  refine v_iconst F (pc := 21) dJx4a65c_clear_da8c8_21 ?_
  refine v_dup_x1 F (pc := 22) dJx4a65c_clear_da8c8_22 rfl rfl ?_
  refine v_putf F (pc := 23) fp_Jx4a65c_48_2 dJx4a65c_clear_da8c8_23 (f_up_s _ _ _) rfl rfl (Nat.le_of_ble_eq_true rfl) (h' := f_up h a (.inr (2, [.int (iI (mc + 1)), .ref ed, .int (iI (0))]))) (f_up_up _ _ _ _) ?_
  refine v_istore_n F (pc := 26) (lo' := [some (.ref a), some (.ref ed), some (.int (iI (n))), some (.int (iI (0)))]) dJx4a65c_clear_da8c8_26 (Nat.le_of_ble_eq_true rfl) rfl ?_
  have LP27 : ∀ (N_ : Nat) (k : Int) (r1 : Int → Option Nat), (0 ≤ k) → (k ≤ n) → n.toNat - k.toNat < N_ → VE pX l eX ({ frames := 1, cells := 0, slots := 0, locals := 20 }) sX mX ([.ref a] : List Value).toArray bX tX cX 4 g AX (f_up (f_up h a (.inr (2, [.int (iI (mc + 1)), .ref ed, .int (iI (0))]))) ed (qar (g.2.1 2) cap r1)) 0 0 27 [some (.ref a), some (.ref ed), some (.int (iI (n))), some (.int (iI (k)))] [] (fun w h1 => w = none ∧ LA1 g h h1 a ed (mc + 1) 0 cap (fun _ => True)) (noX) 0 0 := by
    intro N_
    induction N_ with
    | zero => intro k r1 _ _ hm_; exact absurd hm_ (Nat.not_lt_zero _)
    | succ N_ ih =>
      intro k r1 hk0 hk1 hm_
      refine v_iload_n F (pc := 27) dJx4a65c_clear_da8c8_27 rfl ?_
      refine v_iload_n F (pc := 28) dJx4a65c_clear_da8c8_28 rfl ?_
      refine v_icmp_ge F (pc := 29) (a := k) (b := n) 42 dJx4a65c_clear_da8c8_29 (by decide) (by omega) (by omega) (fun c_1 => ?_) (fun c_1 => ?_)
      · refine v_vret F (pc := 42) dJx4a65c_clear_da8c8_42 rfl (Nat.le_of_ble_eq_true rfl) (Nat.le_of_ble_eq_true rfl) ?_
        exact ⟨rfl, _, f_up_cm ne_ed_a _ _ _, trivial⟩
      · refine v_aload_n F (pc := 32) dJx4a65c_clear_da8c8_32 rfl ?_
        refine v_iload_n F (pc := 33) dJx4a65c_clear_da8c8_33 rfl ?_
        refine v_null F (pc := 34) dJx4a65c_clear_da8c8_34 ?_
        refine v_astN F (pc := 35) (n := cap) (r := r1) (z := k) dJx4a65c_clear_da8c8_35 (f_up_s _ _ _) (by omega) (by omega) (h' := f_up (f_up h a (.inr (2, [.int (iI (mc + 1)), .ref ed, .int (iI (0))]))) ed (qar (g.2.1 2) cap (iup r1 k none))) (f_up_up _ _ _ _) ?_
        refine v_iinc F (pc := 36) (lo' := [some (.ref a), some (.ref ed), some (.int (iI (n))), some (.int (iI (k + 1)))]) dJx4a65c_clear_da8c8_36 rfl (Nat.le_of_ble_eq_true rfl) rfl ?_
        refine v_goto F (pc := 39) 27 dJx4a65c_clear_da8c8_39 (by decide) ?_
        exact ih (k + 1) (iup r1 k none) (by omega) (by omega) (by omega)
  have e0_ := LP27 (n.toNat + 1) 0 r (by omega) (by omega) (by omega)
  rw [f_up_id (h := f_up h a _) ((f_up_n ne_ed_a).trans hed)] at e0_
  exact e0_
