section VROWS2
variable {p : Program} {l : Launch} {e : Env} {R : Room} {s : State} {m : MethodId} {args : Array Value} {below : List Frame} {meth : Method} {c : Code} {Q : State → Prop} {nl : Nat} {g : gT} {A : Nat → Prop} {h : fH} {cells slots pc : Nat} {lo lo' : List (Option Value)} {st : List Value} {cc : ByteArray} {ret : Option FieldType} {own : String}
theorem V.of {h : fH} {v : Value} {v' : Value} (k : V p l e R s m args below meth c Q nl g A h cells slots pc lo (v' :: st)) (hv : v = v') : V p l e R s m args below meth c Q nl g A h cells slots pc lo (v :: st) := by subst hv; exact k

theorem v_istore_n (F : Fx p l s m args meth c cc nl ret own g A) {i : Fin 4} {x : Int32} (d : decode cc pc = .ok (.istore_n i, 1)) (hn : (i : Nat) < nl) (hl' : lo.set (i : Nat) (some (.int x)) = lo') (k : V p l e R s m args below meth c Q nl g A h cells slots (pc + 1) lo' st) : V p l e R s m args below meth c Q nl g A h cells slots pc lo (.int x :: st) := by
  intro H locs ls hP hS hl
  obtain ⟨ls', e', h'⟩ := hl.set (v := .int x) hn rfl
  rw [hl'] at h'
  intro T hT X
  obtain ⟨t, a, b⟩ := k H locs ls' hP hS h' T hT X
  refine ⟨t, ?_, b⟩
  have hexec := F.1
  have hb := F.2.1
  jvm_step X.here [X.here.top, ↓top_set X.here.top, hexec, hb, d, e']
  exact a
theorem v_istore (F : Fx p l s m args meth c cc nl ret own g A) {i : Nat} {x : Int32} (d : decode cc pc = .ok (.istore i, 2)) (hn : i < nl) (hl' : lo.set i (some (.int x)) = lo') (k : V p l e R s m args below meth c Q nl g A h cells slots (pc + 2) lo' st) : V p l e R s m args below meth c Q nl g A h cells slots pc lo (.int x :: st) := by
  intro H locs ls hP hS hl
  obtain ⟨ls', e', h'⟩ := hl.set (v := .int x) hn rfl
  rw [hl'] at h'
  intro T hT X
  obtain ⟨t, a, b⟩ := k H locs ls' hP hS h' T hT X
  refine ⟨t, ?_, b⟩
  have hexec := F.1
  have hb := F.2.1
  jvm_step X.here [X.here.top, ↓top_set X.here.top, hexec, hb, d, e']
  exact a
theorem v_astore_n (F : Fx p l s m args meth c cc nl ret own g A) {i : Fin 4} {x : Nat} (d : decode cc pc = .ok (.astore_n i, 1)) (hn : (i : Nat) < nl) (hl' : lo.set (i : Nat) (some (.ref x)) = lo') (k : V p l e R s m args below meth c Q nl g A h cells slots (pc + 1) lo' st) : V p l e R s m args below meth c Q nl g A h cells slots pc lo (.ref x :: st) := by
  intro H locs ls hP hS hl
  obtain ⟨ls', e', h'⟩ := hl.set (v := .ref x) hn rfl
  rw [hl'] at h'
  intro T hT X
  obtain ⟨t, a, b⟩ := k H locs ls' hP hS h' T hT X
  refine ⟨t, ?_, b⟩
  have hexec := F.1
  have hb := F.2.1
  jvm_step X.here [X.here.top, ↓top_set X.here.top, hexec, hb, d, e', Value.isRef]
  exact a
theorem v_astore (F : Fx p l s m args meth c cc nl ret own g A) {i : Nat} {x : Nat} (d : decode cc pc = .ok (.astore i, 2)) (hn : i < nl) (hl' : lo.set i (some (.ref x)) = lo') (k : V p l e R s m args below meth c Q nl g A h cells slots (pc + 2) lo' st) : V p l e R s m args below meth c Q nl g A h cells slots pc lo (.ref x :: st) := by
  intro H locs ls hP hS hl
  obtain ⟨ls', e', h'⟩ := hl.set (v := .ref x) hn rfl
  rw [hl'] at h'
  intro T hT X
  obtain ⟨t, a, b⟩ := k H locs ls' hP hS h' T hT X
  refine ⟨t, ?_, b⟩
  have hexec := F.1
  have hb := F.2.1
  jvm_step X.here [X.here.top, ↓top_set X.here.top, hexec, hb, d, e', Value.isRef]
  exact a
theorem v_iinc (F : Fx p l s m args meth c cc nl ret own g A) {i : Nat} {n z : Int} (d : decode cc pc = .ok (.iinc i n, 3)) (hi : lo[i]? = some (some (.int (iI z)))) (hn : i < nl) (hl' : lo.set i (some (.int (iI (z + n)))) = lo') (k : V p l e R s m args below meth c Q nl g A h cells slots (pc + 3) lo' st) : V p l e R s m args below meth c Q nl g A h cells slots pc lo st := by
  intro H locs ls hP hS hl
  obtain ⟨ls', e', h'⟩ := hl.set (v := .int (iI (z + n))) hn rfl
  rw [hl'] at h'
  intro T hT X
  obtain ⟨t, a, b⟩ := k H locs ls' hP hS h' T hT X
  refine ⟨t, ?_, b⟩
  have hexec := F.1
  have hb := F.2.1
  have hg := (hl.2.2 _ _ hi).2
  have hz : iI z + Int32.ofInt n = iI (z + n) := iI_add z n
  jvm_step X.here [X.here.top, ↓top_set X.here.top, hexec, hb, d, hg, hz, e']
  exact a
theorem v_iadd (F : Fx p l s m args meth c cc nl ret own g A) {a b : Int} (d : decode cc pc = .ok (.iadd, 1)) (k : V p l e R s m args below meth c Q nl g A h cells slots (pc + 1) lo (.int (iI (a + b)) :: st)) : V p l e R s m args below meth c Q nl g A h cells slots pc lo (.int (iI b) :: .int (iI a) :: st) :=
  fun H locs ls hP hS hl => lv_iadd F.1 F.2.1 d (by rw [iI_add]; exact k H locs ls hP hS hl)
theorem v_isub (F : Fx p l s m args meth c cc nl ret own g A) {a b : Int} (d : decode cc pc = .ok (.isub, 1)) (k : V p l e R s m args below meth c Q nl g A h cells slots (pc + 1) lo (.int (iI (a - b)) :: st)) : V p l e R s m args below meth c Q nl g A h cells slots pc lo (.int (iI b) :: .int (iI a) :: st) :=
  fun H locs ls hP hS hl => lv_isub F.1 F.2.1 d (by rw [iI_sub]; exact k H locs ls hP hS hl)
theorem v_imul (F : Fx p l s m args meth c cc nl ret own g A) {a b : Int} (d : decode cc pc = .ok (.imul, 1)) (k : V p l e R s m args below meth c Q nl g A h cells slots (pc + 1) lo (.int (iI (a * b)) :: st)) : V p l e R s m args below meth c Q nl g A h cells slots pc lo (.int (iI b) :: .int (iI a) :: st) :=
  fun H locs ls hP hS hl => lv_imul F.1 F.2.1 d (by rw [iI_mul]; exact k H locs ls hP hS hl)
theorem v_ineg (F : Fx p l s m args meth c cc nl ret own g A) {a : Int} (d : decode cc pc = .ok (.ineg, 1)) (k : V p l e R s m args below meth c Q nl g A h cells slots (pc + 1) lo (.int (iI (-a)) :: st)) : V p l e R s m args below meth c Q nl g A h cells slots pc lo (.int (iI a) :: st) :=
  fun H locs ls hP hS hl => lv_ineg F.1 F.2.1 d (by rw [iI_neg]; exact k H locs ls hP hS hl)
theorem v_idiv (F : Fx p l s m args meth c cc nl ret own g A) {a b : Int} (d : decode cc pc = .ok (.idiv, 1)) (ha : 0 ≤ a ∧ a ≤ 2147483647) (hb : 0 < b ∧ b ≤ 2147483647) (k : V p l e R s m args below meth c Q nl g A h cells slots (pc + 1) lo (.int (iI (a / b)) :: st)) : V p l e R s m args below meth c Q nl g A h cells slots pc lo (.int (iI b) :: .int (iI a) :: st) :=
  fun H locs ls hP hS hl => lv_idiv F.1 F.2.1 d (by rw [iI_0, iI_eq (by omega) (by omega)]; omega) (by rw [iI_div ha hb]; exact k H locs ls hP hS hl)
theorem v_irem (F : Fx p l s m args meth c cc nl ret own g A) {a b : Int} (d : decode cc pc = .ok (.irem, 1)) (ha : 0 ≤ a ∧ a ≤ 2147483647) (hb : 0 < b ∧ b ≤ 2147483647) (k : V p l e R s m args below meth c Q nl g A h cells slots (pc + 1) lo (.int (iI (a % b)) :: st)) : V p l e R s m args below meth c Q nl g A h cells slots pc lo (.int (iI b) :: .int (iI a) :: st) :=
  fun H locs ls hP hS hl => lv_irem F.1 F.2.1 d (by rw [iI_0, iI_eq (by omega) (by omega)]; omega) (by rw [iI_rem ha hb]; exact k H locs ls hP hS hl)
theorem v_icmp_eq (F : Fx p l s m args meth c cc nl ret own g A) {a b : Int} {off : Int} (tgt : Nat) (d : decode cc pc = .ok (.if_icmp .eq off, 3)) (ht : (pc : Int) + off = (tgt : Int)) (hA : -2147483648 ≤ a ∧ a ≤ 2147483647) (hB : -2147483648 ≤ b ∧ b ≤ 2147483647) (kt : a = b → V p l e R s m args below meth c Q nl g A h cells slots tgt lo st) (kf : ¬ a = b → V p l e R s m args below meth c Q nl g A h cells slots (pc + 3) lo st) : V p l e R s m args below meth c Q nl g A h cells slots pc lo (.int (iI b) :: .int (iI a) :: st) :=
  fun H locs ls hP hS hl => lv_icmp_eq F.1 F.2.1 d ht (fun q => kt ((iI_eq hA hB).mp q) H locs ls hP hS hl) (fun q => kf (fun z => q ((iI_eq hA hB).mpr z)) H locs ls hP hS hl)
theorem v_if_eq (F : Fx p l s m args meth c cc nl ret own g A) {a : Int} {off : Int} (tgt : Nat) (d : decode cc pc = .ok (.ifCond .eq off, 3)) (ht : (pc : Int) + off = (tgt : Int)) (hA : -2147483648 ≤ a ∧ a ≤ 2147483647) (kt : a = 0 → V p l e R s m args below meth c Q nl g A h cells slots tgt lo st) (kf : ¬ a = 0 → V p l e R s m args below meth c Q nl g A h cells slots (pc + 3) lo st) : V p l e R s m args below meth c Q nl g A h cells slots pc lo (.int (iI a) :: st) :=
  have hB : -2147483648 ≤ (0 : Int) ∧ (0 : Int) ≤ 2147483647 := ⟨by decide, by decide⟩
  fun H locs ls hP hS hl => lv_if_eq F.1 F.2.1 d ht (fun q => kt ((iI_eq hA hB).mp q) H locs ls hP hS hl) (fun q => kf (fun z => q ((iI_eq hA hB).mpr z)) H locs ls hP hS hl)
theorem v_icmp_ne (F : Fx p l s m args meth c cc nl ret own g A) {a b : Int} {off : Int} (tgt : Nat) (d : decode cc pc = .ok (.if_icmp .ne off, 3)) (ht : (pc : Int) + off = (tgt : Int)) (hA : -2147483648 ≤ a ∧ a ≤ 2147483647) (hB : -2147483648 ≤ b ∧ b ≤ 2147483647) (kt : ¬ a = b → V p l e R s m args below meth c Q nl g A h cells slots tgt lo st) (kf : a = b → V p l e R s m args below meth c Q nl g A h cells slots (pc + 3) lo st) : V p l e R s m args below meth c Q nl g A h cells slots pc lo (.int (iI b) :: .int (iI a) :: st) :=
  fun H locs ls hP hS hl => lv_icmp_ne F.1 F.2.1 d ht (fun q => kt (fun z => q ((iI_eq hA hB).mpr z)) H locs ls hP hS hl) (fun q => kf ((iI_eq hA hB).mp q) H locs ls hP hS hl)
theorem v_if_ne (F : Fx p l s m args meth c cc nl ret own g A) {a : Int} {off : Int} (tgt : Nat) (d : decode cc pc = .ok (.ifCond .ne off, 3)) (ht : (pc : Int) + off = (tgt : Int)) (hA : -2147483648 ≤ a ∧ a ≤ 2147483647) (kt : ¬ a = 0 → V p l e R s m args below meth c Q nl g A h cells slots tgt lo st) (kf : a = 0 → V p l e R s m args below meth c Q nl g A h cells slots (pc + 3) lo st) : V p l e R s m args below meth c Q nl g A h cells slots pc lo (.int (iI a) :: st) :=
  have hB : -2147483648 ≤ (0 : Int) ∧ (0 : Int) ≤ 2147483647 := ⟨by decide, by decide⟩
  fun H locs ls hP hS hl => lv_if_ne F.1 F.2.1 d ht (fun q => kt (fun z => q ((iI_eq hA hB).mpr z)) H locs ls hP hS hl) (fun q => kf ((iI_eq hA hB).mp q) H locs ls hP hS hl)
theorem v_icmp_lt (F : Fx p l s m args meth c cc nl ret own g A) {a b : Int} {off : Int} (tgt : Nat) (d : decode cc pc = .ok (.if_icmp .lt off, 3)) (ht : (pc : Int) + off = (tgt : Int)) (hA : -2147483648 ≤ a ∧ a ≤ 2147483647) (hB : -2147483648 ≤ b ∧ b ≤ 2147483647) (kt : a < b → V p l e R s m args below meth c Q nl g A h cells slots tgt lo st) (kf : ¬ a < b → V p l e R s m args below meth c Q nl g A h cells slots (pc + 3) lo st) : V p l e R s m args below meth c Q nl g A h cells slots pc lo (.int (iI b) :: .int (iI a) :: st) :=
  fun H locs ls hP hS hl => lv_icmp_lt F.1 F.2.1 d ht (fun q => kt ((iI_lt hA hB).mp q) H locs ls hP hS hl) (fun q => kf (fun z => q ((iI_lt hA hB).mpr z)) H locs ls hP hS hl)
theorem v_if_lt (F : Fx p l s m args meth c cc nl ret own g A) {a : Int} {off : Int} (tgt : Nat) (d : decode cc pc = .ok (.ifCond .lt off, 3)) (ht : (pc : Int) + off = (tgt : Int)) (hA : -2147483648 ≤ a ∧ a ≤ 2147483647) (kt : a < 0 → V p l e R s m args below meth c Q nl g A h cells slots tgt lo st) (kf : ¬ a < 0 → V p l e R s m args below meth c Q nl g A h cells slots (pc + 3) lo st) : V p l e R s m args below meth c Q nl g A h cells slots pc lo (.int (iI a) :: st) :=
  have hB : -2147483648 ≤ (0 : Int) ∧ (0 : Int) ≤ 2147483647 := ⟨by decide, by decide⟩
  fun H locs ls hP hS hl => lv_if_lt F.1 F.2.1 d ht (fun q => kt ((iI_lt hA hB).mp q) H locs ls hP hS hl) (fun q => kf (fun z => q ((iI_lt hA hB).mpr z)) H locs ls hP hS hl)
theorem v_icmp_ge (F : Fx p l s m args meth c cc nl ret own g A) {a b : Int} {off : Int} (tgt : Nat) (d : decode cc pc = .ok (.if_icmp .ge off, 3)) (ht : (pc : Int) + off = (tgt : Int)) (hA : -2147483648 ≤ a ∧ a ≤ 2147483647) (hB : -2147483648 ≤ b ∧ b ≤ 2147483647) (kt : b ≤ a → V p l e R s m args below meth c Q nl g A h cells slots tgt lo st) (kf : ¬ b ≤ a → V p l e R s m args below meth c Q nl g A h cells slots (pc + 3) lo st) : V p l e R s m args below meth c Q nl g A h cells slots pc lo (.int (iI b) :: .int (iI a) :: st) :=
  fun H locs ls hP hS hl => lv_icmp_ge F.1 F.2.1 d ht (fun q => kt ((iI_le hB hA).mp q) H locs ls hP hS hl) (fun q => kf (fun z => q ((iI_le hB hA).mpr z)) H locs ls hP hS hl)
theorem v_if_ge (F : Fx p l s m args meth c cc nl ret own g A) {a : Int} {off : Int} (tgt : Nat) (d : decode cc pc = .ok (.ifCond .ge off, 3)) (ht : (pc : Int) + off = (tgt : Int)) (hA : -2147483648 ≤ a ∧ a ≤ 2147483647) (kt : 0 ≤ a → V p l e R s m args below meth c Q nl g A h cells slots tgt lo st) (kf : ¬ 0 ≤ a → V p l e R s m args below meth c Q nl g A h cells slots (pc + 3) lo st) : V p l e R s m args below meth c Q nl g A h cells slots pc lo (.int (iI a) :: st) :=
  have hB : -2147483648 ≤ (0 : Int) ∧ (0 : Int) ≤ 2147483647 := ⟨by decide, by decide⟩
  fun H locs ls hP hS hl => lv_if_ge F.1 F.2.1 d ht (fun q => kt ((iI_le hB hA).mp q) H locs ls hP hS hl) (fun q => kf (fun z => q ((iI_le hB hA).mpr z)) H locs ls hP hS hl)
theorem v_icmp_gt (F : Fx p l s m args meth c cc nl ret own g A) {a b : Int} {off : Int} (tgt : Nat) (d : decode cc pc = .ok (.if_icmp .gt off, 3)) (ht : (pc : Int) + off = (tgt : Int)) (hA : -2147483648 ≤ a ∧ a ≤ 2147483647) (hB : -2147483648 ≤ b ∧ b ≤ 2147483647) (kt : b < a → V p l e R s m args below meth c Q nl g A h cells slots tgt lo st) (kf : ¬ b < a → V p l e R s m args below meth c Q nl g A h cells slots (pc + 3) lo st) : V p l e R s m args below meth c Q nl g A h cells slots pc lo (.int (iI b) :: .int (iI a) :: st) :=
  fun H locs ls hP hS hl => lv_icmp_gt F.1 F.2.1 d ht (fun q => kt ((iI_lt hB hA).mp q) H locs ls hP hS hl) (fun q => kf (fun z => q ((iI_lt hB hA).mpr z)) H locs ls hP hS hl)
theorem v_if_gt (F : Fx p l s m args meth c cc nl ret own g A) {a : Int} {off : Int} (tgt : Nat) (d : decode cc pc = .ok (.ifCond .gt off, 3)) (ht : (pc : Int) + off = (tgt : Int)) (hA : -2147483648 ≤ a ∧ a ≤ 2147483647) (kt : 0 < a → V p l e R s m args below meth c Q nl g A h cells slots tgt lo st) (kf : ¬ 0 < a → V p l e R s m args below meth c Q nl g A h cells slots (pc + 3) lo st) : V p l e R s m args below meth c Q nl g A h cells slots pc lo (.int (iI a) :: st) :=
  have hB : -2147483648 ≤ (0 : Int) ∧ (0 : Int) ≤ 2147483647 := ⟨by decide, by decide⟩
  fun H locs ls hP hS hl => lv_if_gt F.1 F.2.1 d ht (fun q => kt ((iI_lt hB hA).mp q) H locs ls hP hS hl) (fun q => kf (fun z => q ((iI_lt hB hA).mpr z)) H locs ls hP hS hl)
theorem v_icmp_le (F : Fx p l s m args meth c cc nl ret own g A) {a b : Int} {off : Int} (tgt : Nat) (d : decode cc pc = .ok (.if_icmp .le off, 3)) (ht : (pc : Int) + off = (tgt : Int)) (hA : -2147483648 ≤ a ∧ a ≤ 2147483647) (hB : -2147483648 ≤ b ∧ b ≤ 2147483647) (kt : a ≤ b → V p l e R s m args below meth c Q nl g A h cells slots tgt lo st) (kf : ¬ a ≤ b → V p l e R s m args below meth c Q nl g A h cells slots (pc + 3) lo st) : V p l e R s m args below meth c Q nl g A h cells slots pc lo (.int (iI b) :: .int (iI a) :: st) :=
  fun H locs ls hP hS hl => lv_icmp_le F.1 F.2.1 d ht (fun q => kt ((iI_le hA hB).mp q) H locs ls hP hS hl) (fun q => kf (fun z => q ((iI_le hA hB).mpr z)) H locs ls hP hS hl)
theorem v_if_le (F : Fx p l s m args meth c cc nl ret own g A) {a : Int} {off : Int} (tgt : Nat) (d : decode cc pc = .ok (.ifCond .le off, 3)) (ht : (pc : Int) + off = (tgt : Int)) (hA : -2147483648 ≤ a ∧ a ≤ 2147483647) (kt : a ≤ 0 → V p l e R s m args below meth c Q nl g A h cells slots tgt lo st) (kf : ¬ a ≤ 0 → V p l e R s m args below meth c Q nl g A h cells slots (pc + 3) lo st) : V p l e R s m args below meth c Q nl g A h cells slots pc lo (.int (iI a) :: st) :=
  have hB : -2147483648 ≤ (0 : Int) ∧ (0 : Int) ≤ 2147483647 := ⟨by decide, by decide⟩
  fun H locs ls hP hS hl => lv_if_le F.1 F.2.1 d ht (fun q => kt ((iI_le hA hB).mp q) H locs ls hP hS hl) (fun q => kf (fun z => q ((iI_le hA hB).mpr z)) H locs ls hP hS hl)
theorem v_goto (F : Fx p l s m args meth c cc nl ret own g A) {off : Int} (tgt : Nat) (d : decode cc pc = .ok (.goto off, 3)) (ht : (pc : Int) + off = (tgt : Int)) (k : V p l e R s m args below meth c Q nl g A h cells slots tgt lo st) : V p l e R s m args below meth c Q nl g A h cells slots pc lo st :=
  fun H locs ls hP hS hl => lv_goto F.1 F.2.1 d ht (k H locs ls hP hS hl)
theorem v_dup (F : Fx p l s m args meth c cc nl ret own g A) {va : Value} (d : decode cc pc = .ok (.dup, 1)) (hva : va.category = 1) (k : V p l e R s m args below meth c Q nl g A h cells slots (pc + 1) lo (va :: va :: st)) : V p l e R s m args below meth c Q nl g A h cells slots pc lo (va :: st) :=
  fun H locs ls hP hS hl => lv_dup F.1 F.2.1 d hva (k H locs ls hP hS hl)
theorem v_pop (F : Fx p l s m args meth c cc nl ret own g A) {va : Value} (d : decode cc pc = .ok (.pop, 1)) (hva : va.category = 1) (k : V p l e R s m args below meth c Q nl g A h cells slots (pc + 1) lo (st)) : V p l e R s m args below meth c Q nl g A h cells slots pc lo (va :: st) :=
  fun H locs ls hP hS hl => lv_pop F.1 F.2.1 d hva (k H locs ls hP hS hl)
theorem v_dup_x1 (F : Fx p l s m args meth c cc nl ret own g A) {va : Value} {vb : Value} (d : decode cc pc = .ok (.dup_x1, 1)) (hva : va.category = 1) (hvb : vb.category = 1) (k : V p l e R s m args below meth c Q nl g A h cells slots (pc + 1) lo (va :: vb :: va :: st)) : V p l e R s m args below meth c Q nl g A h cells slots pc lo (va :: vb :: st) :=
  fun H locs ls hP hS hl => lv_dup_x1 F.1 F.2.1 d hva hvb (k H locs ls hP hS hl)
theorem v_dup2 (F : Fx p l s m args meth c cc nl ret own g A) {va vb : Value} (d : decode cc pc = .ok (.dup2, 1)) (ha : va.category = 1) (hb : vb.category = 1) (k : V p l e R s m args below meth c Q nl g A h cells slots (pc + 1) lo (va :: vb :: va :: vb :: st)) : V p l e R s m args below meth c Q nl g A h cells slots pc lo (va :: vb :: st) :=
  fun H locs ls hP hS hl => lv_dup2_11 F.1 F.2.1 d ha hb (k H locs ls hP hS hl)
def bI (b : Bool) : Int := if b = true then 1 else 0
theorem bI_t : bI true = 1 := rfl
theorem bI_f : bI false = 0 := rfl
theorem bI_01 (b : Bool) : bI b = 0 ∨ bI b = 1 := by cases b <;> simp [bI]
theorem bI_eq {b : Bool} : bI b = 0 ↔ b = false := by cases b <;> simp [bI]
theorem nar_bI (b : Bool) : narrow .boolean (.int (iI (bI b))) = .int (iI (bI b)) := by cases b <;> decide
theorem nar_01 {z : Int} (h : z = 0 ∨ z = 1) : narrow .boolean (.int (iI z)) = .int (iI z) := by rcases h with rfl | rfl <;> decide
theorem v_if_eqB (F : Fx p l s m args meth c cc nl ret own g A) {b : Bool} {off : Int} (tgt : Nat) (d : decode cc pc = .ok (.ifCond .eq off, 3)) (ht : (pc : Int) + off = (tgt : Int)) (kt : b = false → V p l e R s m args below meth c Q nl g A h cells slots tgt lo st) (kf : b = true → V p l e R s m args below meth c Q nl g A h cells slots (pc + 3) lo st) : V p l e R s m args below meth c Q nl g A h cells slots pc lo (.int (iI (bI b)) :: st) :=
  v_if_eq F tgt d ht (by have := bI_01 b; omega) (fun q => kt (bI_eq.mp q)) (fun q => kf (by cases b; exact absurd rfl q; rfl))
theorem v_if_neB (F : Fx p l s m args meth c cc nl ret own g A) {b : Bool} {off : Int} (tgt : Nat) (d : decode cc pc = .ok (.ifCond .ne off, 3)) (ht : (pc : Int) + off = (tgt : Int)) (kt : b = true → V p l e R s m args below meth c Q nl g A h cells slots tgt lo st) (kf : b = false → V p l e R s m args below meth c Q nl g A h cells slots (pc + 3) lo st) : V p l e R s m args below meth c Q nl g A h cells slots pc lo (.int (iI (bI b)) :: st) :=
  v_if_ne F tgt d ht (by have := bI_01 b; omega) (fun q => kt (by cases b; exact absurd rfl q; rfl)) (fun q => kf (bI_eq.mp q))
/-- a field's link: own class, place in its pool, kind of the object, place of the field -/
def FD (own : String) (index ci k : Nat) : Prop := ∃ (C : String) (T : u_T) (N : Nat) (ref : String), vwCl[ci]? = some (C, T, N) ∧ (∀ w ∈ u_ws C T N, w ∈ lw_T) ∧ k < N ∧ Cond.fieldLink own index ref (T k).2.1 (T k).2.2.1 ∈ lw_T ∧ (∀ (s : State) (args : Array Value) x, (∀ w ∈ lw_T, w.before args s = true) → s.fieldFound? (T k).1 (T k).2.1 (T k).2.2.1 = some x → s.fieldFound? ref (T k).2.1 (T k).2.2.1 = some x)
def FP (own : String) (index ci k : Nat) (ty : FieldType) (fin : Bool) : Prop := ∃ (C : String) (T : u_T) (N : Nat) (ref : String) (tf : Nat → FieldType), (vwCl[ci]? = some (C, T, N) ∧ (∀ w ∈ u_ws C T N, w ∈ lw_T) ∧ k < N ∧ Cond.fieldLink own index ref (T k).2.1 (T k).2.2.1 ∈ lw_T ∧ (∀ (s : State) (args : Array Value) x, (∀ w ∈ lw_T, w.before args s = true) → s.fieldFound? (T k).1 (T k).2.1 (T k).2.2.1 = some x → s.fieldFound? ref (T k).2.1 (T k).2.2.1 = some x)) ∧ (∀ k, k < N → parseFieldDescriptor (T k).2.2.1 = some (tf k)) ∧ (∀ a, a < N → ∀ b, b < N → a ≠ b → (T a).2.1 ≠ (T b).2.1) ∧ parseFieldDescriptor (T k).2.2.1 = some ty ∧ (T k).2.2.2 = fin ∧ (fin = true → (T k).1 = own)
theorem v_getf (F : Fx p l s m args meth c cc nl ret own g A) {index ci k : Nat} (fd : FD own index ci k) {a : Nat} {fs : List Value} {v : Value} (d : decode cc pc = .ok (.getfield index, 3)) (hc : h a = some (.inr (ci, fs))) (hv : fs[k]? = some v) (kk : V p l e R s m args below meth c Q nl g A h cells slots (pc + 3) lo (v :: st)) : V p l e R s m args below meth c Q nl g A h cells slots pc lo (.ref a :: st) := by
  intro H locs ls hP hS hl
  obtain ⟨C, T, N, ref, h1, h2, h3, h4, h5⟩ := fd
  obtain ⟨hx, hb, hml, hr, hown, hlk, hK, hST, hA, hl9, hts⟩ := F
  have hP1 : va_P g.1 vwCl [(a, .inr (ci, fs))] H := fun k q hq => by
    have hz : k < 1 := (List.getElem?_eq_some_iff.mp hq).1
    rw [show k = 0 by omega] at hq
    cases hq
    exact (hP a _ hc).1
  exact va_get (D := g.1) hx hb hts h2 hown hK.1 hP1 0 rfl h1 k h3 (hts _ h4) (fun x hx => h5 s args x hts hx) hv d (kk H locs ls hP hS hl)
theorem v_putf (F : Fx p l s m args meth c cc nl ret own g A) {index ci k : Nat} {ty : FieldType} (fp : FP own index ci k ty false) {a : Nat} {fs : List Value} {v : Value} (d : decode cc pc = .ok (.putfield index, 3)) (hc : h a = some (.inr (ci, fs)))  (hn : narrow ty v = v) (hf : fits ty v = true) (hl0 : k < fs.length) {h' : fH} (hh : f_up h a (.inr (ci, fs.set k v)) = h') (kk : V p l e R s m args below meth c Q nl g A h' cells slots (pc + 3) lo st) : V p l e R s m args below meth c Q nl g A h cells slots pc lo (v :: .ref a :: st) := by
  subst hh
  intro H locs ls hP hS hl
  obtain ⟨C, T, N, ref, tf, ⟨h1, h2, h3, h4, h5⟩, h6, h7, h8, h80, h9⟩ := fp
  obtain ⟨hx, hb, hml, hr, hown, hlk, hK, hST, hA, hl9, hts⟩ := F
  obtain ⟨ws, w1, w2, w3, w4⟩ := f_ws hP
  obtain ⟨q0, hq⟩ := w3 a _ hc
  exact va_put (D := g.1) hx hb hts h2 tf h6 h7 hown hK.1 w1 w2 hS q0 hq h1 k h3 (hts _ h4) (fun x hx => h5 s args x hts hx) h80 h8 hn hf hl0 d (fun H1 locs1 p1 p2 p3 => kk H1 locs1 ls (f_set w3 hq p1 p2) p3 hl)
theorem v_putF (F : Fx p l s m args meth c cc nl ret own g A) {index ci k : Nat} {ty : FieldType} (fp : FP own index ci k ty true) {a : Nat} {fs : List Value} {v : Value} (d : decode cc pc = .ok (.putfield index, 3)) (hc : h a = some (.inr (ci, fs))) (hin : meth.name = "<init>") (hn : narrow ty v = v) (hf : fits ty v = true) (hl0 : k < fs.length) {h' : fH} (hh : f_up h a (.inr (ci, fs.set k v)) = h') (kk : V p l e R s m args below meth c Q nl g A h' cells slots (pc + 3) lo st) : V p l e R s m args below meth c Q nl g A h cells slots pc lo (v :: .ref a :: st) := by
  subst hh
  intro H locs ls hP hS hl
  obtain ⟨C, T, N, ref, tf, ⟨h1, h2, h3, h4, h5⟩, h6, h7, h8, h80, h9⟩ := fp
  obtain ⟨hx, hb, hml, hr, hown, hlk, hK, hST, hA, hl9, hts⟩ := F
  obtain ⟨ws, w1, w2, w3, w4⟩ := f_ws hP
  obtain ⟨q0, hq⟩ := w3 a _ hc
  exact va_putF (D := g.1) hx hb hts h2 tf h6 h7 hown hK.1 w1 w2 hS q0 hq h1 k h3 (hts _ h4) (fun x hx => h5 s args x hts hx) h80 hin (h9 rfl) h8 hn hf hl0 d (fun H1 locs1 p1 p2 p3 => kk H1 locs1 ls (f_set w3 hq p1 p2) p3 hl)
theorem v_iald (F : Fx p l s m args meth c cc nl ret own g A) {a n : Nat} {f : Int → Int} {z : Int} (d : decode cc pc = .ok (.iaload, 1)) (hc : h a = some (iar (g.2.1 0) n f)) (hz : 0 ≤ z ∧ z < n) (hn : n < 2147483648) (kk : V p l e R s m args below meth c Q nl g A h cells slots (pc + 1) lo (.int (iI (f z)) :: st)) : V p l e R s m args below meth c Q nl g A h cells slots pc lo (.int (iI z) :: .ref a :: st) := by
  intro H locs ls hP hS hl
  obtain ⟨hx, hb, hml, hr, hown, hlk, hK, hST, hA, hl9, hts⟩ := F
  obtain ⟨ws, w1, w2, w3, w4⟩ := f_ws hP
  obtain ⟨q0, hq⟩ := w3 a _ hc
  refine va_iald (D := g.1) hx hb hK.1 w1 q0 0 hq rfl (iI_in hz hn) d ?_
  have e1 : (((iI z).toNatClampNeg : Nat) : Int) = z := by rw [iI_cl (by omega)]; omega
  rw [e1]
  exact kk H locs ls hP hS hl
theorem v_zald (F : Fx p l s m args meth c cc nl ret own g A) {a n : Nat} {f : Int → Int} {z : Int} (d : decode cc pc = .ok (.baload, 1)) (hc : h a = some (iar (g.2.1 1) n f)) (hz : 0 ≤ z ∧ z < n) (hn : n < 2147483648) (kk : V p l e R s m args below meth c Q nl g A h cells slots (pc + 1) lo (.int (iI (f z)) :: st)) : V p l e R s m args below meth c Q nl g A h cells slots pc lo (.int (iI z) :: .ref a :: st) := by
  intro H locs ls hP hS hl
  obtain ⟨hx, hb, hml, hr, hown, hlk, hK, hST, hA, hl9, hts⟩ := F
  obtain ⟨ws, w1, w2, w3, w4⟩ := f_ws hP
  obtain ⟨q0, hq⟩ := w3 a _ hc
  refine va_zald (D := g.1) hx hb hK.1 w1 q0 1 hq rfl (iI_in hz hn) d ?_
  have e1 : (((iI z).toNatClampNeg : Nat) : Int) = z := by rw [iI_cl (by omega)]; omega
  rw [e1]
  exact kk H locs ls hP hS hl
theorem v_iast (F : Fx p l s m args meth c cc nl ret own g A) {a n : Nat} {f : Int → Int} {z x : Int} (d : decode cc pc = .ok (.iastore, 1)) (hc : h a = some (iar (g.2.1 0) n f)) (hz : 0 ≤ z ∧ z < n) (hn : n < 2147483648) {h' : fH} (hh : f_up h a (iar (g.2.1 0) n (iup f z x)) = h') (kk : V p l e R s m args below meth c Q nl g A h' cells slots (pc + 1) lo st) : V p l e R s m args below meth c Q nl g A h cells slots pc lo (.int (iI x) :: .int (iI z) :: .ref a :: st) := by
  subst hh
  intro H locs ls hP hS hl
  obtain ⟨hx, hb, hml, hr, hown, hlk, hK, hST, hA, hl9, hts⟩ := F
  obtain ⟨ws, w1, w2, w3, w4⟩ := f_ws hP
  obtain ⟨q0, hq⟩ := w3 a _ hc
  refine va_iast (D := g.1) hx hb hK.1 w1 w2 hS q0 0 hq rfl (iI_in hz hn) d (fun H1 locs1 p1 p2 p3 => kk H1 locs1 ls ?_ p3 hl)
  rw [iI_cl (by omega), iup_upd hz.1] at p1 p2
  exact f_set w3 hq p1 p2
theorem v_zast (F : Fx p l s m args meth c cc nl ret own g A) {a n : Nat} {f : Int → Int} {z x : Int} (d : decode cc pc = .ok (.bastore, 1)) (hc : h a = some (iar (g.2.1 1) n f)) (hz : 0 ≤ z ∧ z < n) (hn : n < 2147483648) (hx01 : x = 0 ∨ x = 1) {h' : fH} (hh : f_up h a (iar (g.2.1 1) n (iup f z x)) = h') (kk : V p l e R s m args below meth c Q nl g A h' cells slots (pc + 1) lo st) : V p l e R s m args below meth c Q nl g A h cells slots pc lo (.int (iI x) :: .int (iI z) :: .ref a :: st) := by
  subst hh
  intro H locs ls hP hS hl
  obtain ⟨hx, hb, hml, hr, hown, hlk, hK, hST, hA, hl9, hts⟩ := F
  obtain ⟨ws, w1, w2, w3, w4⟩ := f_ws hP
  obtain ⟨q0, hq⟩ := w3 a _ hc
  refine va_zast (D := g.1) hx hb hK.1 w1 w2 hS q0 1 hq rfl (iI_in hz hn) d (fun H1 locs1 p1 p2 p3 => kk H1 locs1 ls ?_ p3 hl)
  have e9 : vp_nar .boolean (iI x) = iI x := by rcases hx01 with rfl | rfl <;> decide
  rw [iI_cl (by omega), e9, iup_upd hz.1] at p1 p2
  exact f_set w3 hq p1 p2
theorem v_aald (F : Fx p l s m args meth c cc nl ret own g A) {a n q : Nat} {r : Int → Option Nat} {z : Int} (d : decode cc pc = .ok (.aaload, 1)) (hc : h a = some (qar (g.2.1 2) n r)) (hz : 0 ≤ z ∧ z < n) (hn : n < 2147483648) (hr9 : r z = some q) (kk : V p l e R s m args below meth c Q nl g A h cells slots (pc + 1) lo (.ref q :: st)) : V p l e R s m args below meth c Q nl g A h cells slots pc lo (.int (iI z) :: .ref a :: st) := by
  intro H locs ls hP hS hl
  obtain ⟨hx, hb, hml, hr, hown, hlk, hK, hST, hA, hl9, hts⟩ := F
  obtain ⟨ws, w1, w2, w3, w4⟩ := f_ws hP
  obtain ⟨q0, hq⟩ := w3 a _ hc
  refine va_aldq (D := g.1) hx hb hK.1 w1 q0 2 hq rfl (iI_in hz hn) d ?_
  have e1 : (((iI z).toNatClampNeg : Nat) : Int) = z := by rw [iI_cl (by omega)]; omega
  rw [e1, hr9]
  exact kk H locs ls hP hS hl
theorem v_alen (F : Fx p l s m args meth c cc nl ret own g A) {a : Nat} {t : Nat} {ty : FieldType} {x : vp_A} (d : decode cc pc = .ok (.arraylength, 1)) (hc : h a = some (.inl (g.2.1 t, x))) (ht : (qtys g)[t]? = some (g.2.1 t, ty)) (kk : V p l e R s m args below meth c Q nl g A h cells slots (pc + 1) lo (.int (iI x.1) :: st)) : V p l e R s m args below meth c Q nl g A h cells slots pc lo (.ref a :: st) := by
  intro H locs ls hP hS hl
  obtain ⟨hx, hb, hml, hr, hown, hlk, hK, hST, hA, hl9, hts⟩ := F
  obtain ⟨ws, w1, w2, w3, w4⟩ := f_ws hP
  obtain ⟨q0, hq⟩ := w3 a _ hc
  exact va_alen (D := g.1) hx hb hK.1 w1 q0 t hq ht (iI_nat x.1) d (kk H locs ls hP hS hl)
end VROWS2
