/-! ===== the law: packing again moves nothing ===== -/
/-- as far as packing looks -/
def PQ (S S' : sT) : Prop := (∀ (f : Nat) (z : Int), 1 ≤ f → f ≤ 8 → S' f z = S f z) ∧ S' 17 0 = S 17 0 ∧ (∀ (f : Nat) (j : Int), 10 ≤ f → f ≤ 15 → 0 ≤ j → j < S 17 0 → S' f j = S f j) ∧ ∀ j : Int, 0 ≤ j → j < S 17 0 → S 15 j ≠ -1 → S' 16 j = S 16 j
section PQS
variable {S S' : sT}
theorem PQ.we (a : PQ S S') (hB : MB S) (r : Int) : m_weighs S' r = m_weighs S r := by
  have hm := mb_nm hB
  unfold m_weighs
  rw [a.2.1]
  exact sm_cong hm.1 (fun k x y => by unfold m_we; rw [a.2.2.1 15 k (by decide) (by decide) x y, a.2.2.1 13 k (by decide) (by decide) x y])
theorem PQ.wo (a : PQ S S') (hB : MB S) (r f : Int) : m_worst S' r f = m_worst S r f := by
  have hm := mb_nm hB
  unfold m_worst
  rw [a.2.1]
  exact sm_cong hm.1 (fun k x y => by unfold m_wo; rw [a.2.2.1 15 k (by decide) (by decide) x y, a.2.2.1 14 k (by decide) (by decide) x y, a.2.2.1 12 k (by decide) (by decide) x y])
theorem PQ.rw (a : PQ S S') (hB : MB S) (row : Int) : m_rowWeighs S' row = m_rowWeighs S row := by
  have hn := mb_nr hB
  unfold m_rowWeighs
  rw [a.1 5 0 (by decide) (by decide)]
  exact sm_cong hn.1 (fun k x y => by unfold m_rw; rw [a.1 1 k (by decide) (by decide), a.we hB])
theorem PQ.rh (a : PQ S S') (hB : MB S) (row : Int) : m_rowHeats S' row = m_rowHeats S row := by
  have hm := mb_nm hB
  unfold m_rowHeats
  rw [a.2.1]
  exact sm_cong hm.1 (fun k x y => by unfold m_rh; rw [a.2.2.1 15 k (by decide) (by decide) x y, a.2.2.1 12 k (by decide) (by decide) x y, a.1 1 _ (by decide) (by decide)])
theorem PQ.is (a : PQ S S') (hB : MB S) {r : Int} (r0 : 0 ≤ r) (s : Int) : m_inSlot S' r s = m_inSlot S r s := by
  have hm := mb_nm hB
  unfold m_inSlot
  rw [a.2.1]
  refine ff_cong hm.1 (fun k x y => ?_)
  unfold m_ins
  rw [a.2.2.1 15 k (by decide) (by decide) x y, a.2.2.1 11 k (by decide) (by decide) x y]
  by_cases z : S 15 k = r
  · rw [a.2.2.2 k x y (by omega)]
  · rw [decide_eq_false z]; rfl
theorem PQ.be (a : PQ S S') (hB : MB S) (r p w c : Int) : m_borne S' r p w c = m_borne S r p w c := by
  unfold m_borne m_bf
  rw [a.we hB, a.rw hB, a.rh hB, a.wo hB, a.wo hB, a.wo hB, a.wo hB, a.1 3 _ (by decide) (by decide), a.1 1 _ (by decide) (by decide), a.1 7 _ (by decide) (by decide), a.1 6 _ (by decide) (by decide), a.1 4 _ (by decide) (by decide), a.1 8 _ (by decide) (by decide), a.1 8 _ (by decide) (by decide)]
theorem PQ.si (a : PQ S S') (hB : MB S) {r : Int} (r0 : 0 ≤ r) (n p w c : Int) : m_slotIn S' r n p w c = m_slotIn S r n p w c := by
  have e2 : (fun s => m_free S' r s n) = (fun s => m_free S r s n) := by
    funext s
    unfold m_free
    rw [a.1 2 _ (by decide) (by decide)]
    congr 1
    congr 1
    funext j
    rw [a.is hB r0]
  unfold m_slotIn
  rw [a.be hB, e2, a.1 2 _ (by decide) (by decide)]
theorem PQ.best (a : PQ S S') {m : Int} (h0 : 0 ≤ m) (h1 : m ≤ S 17 0) : m_best S' m = m_best S m := by
  refine sm_ind (p := fun m => m ≤ S 17 0 → m_best S' m = m_best S m) m (fun _ => rfl) (fun k x _ ih hle => ?_) h0 h1
  have e := ih (by omega)
  have hr := m_best_rng S x
  rw [m_best_s S' x, m_best_s S x, e, a.2.2.1 15 k (by decide) (by decide) x (by omega)]
  by_cases z : m_best S k = -1
  · rw [z]
    by_cases y : S 15 k = -1
    · rw [if_pos ⟨y, Or.inl rfl⟩, if_pos ⟨y, Or.inl rfl⟩]
    · rw [if_neg (fun q => y q.1), if_neg (fun q => y q.1)]
  · have e2 : m_ahead S' k (m_best S k) = m_ahead S k (m_best S k) := by
      unfold m_ahead
      rw [a.2.2.1 11 k (by decide) (by decide) x (by omega), a.2.2.1 12 k (by decide) (by decide) x (by omega), a.2.2.1 10 k (by decide) (by decide) x (by omega), a.2.2.1 11 (m_best S k) (by decide) (by decide) (by omega) (by omega), a.2.2.1 12 (m_best S k) (by decide) (by decide) (by omega) (by omega), a.2.2.1 10 (m_best S k) (by decide) (by decide) (by omega) (by omega)]
    rw [e2]
theorem PQ.nx (a : PQ S S') (hB : MB S) : m_nx S' = m_nx S := by
  have hm := mb_nm hB
  unfold m_nx
  rw [a.2.1]
  exact a.best hm.1 (Int.le_refl _)
theorem PQ.pr (a : PQ S S') (hB : MB S) {k : Int} (k0 : 0 ≤ k) (k1 : k < S 17 0) : m_pr S' k = m_pr S k := by
  have hn := mb_nr hB
  unfold m_pr
  rw [a.1 5 0 (by decide) (by decide), a.2.2.1 11 k (by decide) (by decide) k0 k1, a.2.2.1 12 k (by decide) (by decide) k0 k1, a.2.2.1 13 k (by decide) (by decide) k0 k1, a.2.2.1 14 k (by decide) (by decide) k0 k1]
  exact ff_cong hn.1 (fun j x y => by rw [a.si hB x])
theorem PQ.put (a : PQ S S') (hB : MB S) {k : Int} (k0 : 0 ≤ k) (k1 : k < S 17 0) : PQ (m_put S k) (m_put S' k) := by
  have hp := a.pr hB k0 k1
  by_cases z : m_pr S k = -1
  · rw [m_put_none z, m_put_none (by rw [hp]; exact z)]
    exact a
  · have hr : 0 ≤ m_pr S k := by
      have hn := mb_nr hB
      have := ff_rng (fun r => decide (m_slotIn S r (S 11 k) (S 12 k) (S 13 k) (S 14 k) ≠ -1)) hn.1
      unfold m_pr at z ⊢
      omega
    rw [m_put_some z, m_put_some (by rw [hp]; exact z), hp, a.si hB hr, a.2.2.1 11 k (by decide) (by decide) k0 k1, a.2.2.1 12 k (by decide) (by decide) k0 k1, a.2.2.1 13 k (by decide) (by decide) k0 k1, a.2.2.1 14 k (by decide) (by decide) k0 k1]
    generalize m_slotIn S (m_pr S k) (S 11 k) (S 12 k) (S 13 k) (S 14 k) = y
    refine ⟨fun f t u v => ?_, a.2.1, fun f j u v x1 y1 => ?_, fun j x1 y1 ne => ?_⟩
    · rw [su_n (by omega), su_n (by omega), su_n (by omega), su_n (by omega)]; exact a.1 f t u v
    · have y1' : j < S 17 0 := y1
      rw [su_n (f := 16) (f' := f) (by omega), su_n (f := 16) (f' := f) (by omega)]
      by_cases q : f = 15
      · subst q
        rw [su_s, su_s]
        by_cases q2 : j = k
        · rw [q2, iup_s, iup_s]
        · rw [iup_n q2, iup_n q2]; exact a.2.2.1 15 j u v x1 y1'
      · rw [su_n q, su_n q]; exact a.2.2.1 f j u v x1 y1'
    · have y1' : j < S 17 0 := y1
      rw [su_s, su_s]
      by_cases q2 : j = k
      · rw [q2, iup_s, iup_s]
      · rw [su_n (by decide), su_s, iup_n q2] at ne
        rw [iup_n q2, iup_n q2, su_n (by decide), su_n (by decide)]
        exact a.2.2.2 j x1 y1' ne
theorem PQ.cnt (a : PQ S S') (hB : MB S) : m_cnt S' = m_cnt S := by
  have hm := mb_nm hB
  unfold m_cnt
  rw [a.2.1]
  exact sm_cong hm.1 (fun k x y => by unfold m_un; rw [a.2.2.1 15 k (by decide) (by decide) x y])
end PQS
theorem PQ.whN : ∀ (n : Nat) {S S' : sT}, PQ S S' → MB S → (m_whN n S').2 = (m_whN n S).2 ∧ PQ (m_whN n S).1 (m_whN n S').1
  | 0, S, S', a, hB => ⟨a.nx hB, a⟩
  | n + 1, S, S', a, hB => by
    have hm := mb_nm hB
    have e := a.nx hB
    have hr := m_best_rng S hm.1
    show (if m_nx S' = -1 ∨ m_pr S' (m_nx S') = -1 then (S', m_nx S') else m_whN n (m_put S' (m_nx S'))).2 = (if m_nx S = -1 ∨ m_pr S (m_nx S) = -1 then (S, m_nx S) else m_whN n (m_put S (m_nx S))).2 ∧ PQ (if m_nx S = -1 ∨ m_pr S (m_nx S) = -1 then (S, m_nx S) else m_whN n (m_put S (m_nx S))).1 (if m_nx S' = -1 ∨ m_pr S' (m_nx S') = -1 then (S', m_nx S') else m_whN n (m_put S' (m_nx S'))).1
    rw [e]
    by_cases z : m_nx S = -1
    · rw [if_pos (Or.inl z), if_pos (Or.inl z)]; exact ⟨rfl, a⟩
    · have z' : m_best S (S 17 0) ≠ -1 := z
      have k0 : 0 ≤ m_nx S := by unfold m_nx; omega
      have k1 : m_nx S < S 17 0 := by unfold m_nx; omega
      have hp := a.pr hB k0 k1
      rw [hp]
      by_cases y : m_pr S (m_nx S) = -1
      · rw [if_pos (Or.inr y), if_pos (Or.inr y)]; exact ⟨rfl, a⟩
      · rw [if_neg (fun q => q.elim z y), if_neg (fun q => q.elim z y)]
        exact PQ.whN n (a.put hB k0 k1) (m_put_mb hB _)
theorem whN_fix {f : Nat} (hf : f ≠ 15 ∧ f ≠ 16) : ∀ (n : Nat) (τ : sT), (m_whN n τ).1 f = τ f
  | 0, τ => rfl
  | n + 1, τ => by
    show (if m_nx τ = -1 ∨ m_pr τ (m_nx τ) = -1 then (τ, m_nx τ) else m_whN n (m_put τ (m_nx τ))).1 f = _
    split
    · rfl
    · rw [whN_fix hf n]
      by_cases h : m_pr τ (m_nx τ) = -1
      · rw [m_put_none h]
      · rw [m_put_some h, su_n hf.2, su_n hf.1]
section PKK
variable {σ σ' : sT}
theorem p1_fix {f : Nat} (hf : f ≠ 15 ∧ f ≠ 16 ∧ f ≠ 19 ∧ f ≠ 20 ∧ f ≠ 0) (k : Int) : m_p1 (su σ 0 0 0) k f = σ f := by
  funext j
  unfold m_p1
  rw [if_neg hf.1, if_neg hf.2.2.1, if_neg hf.2.2.2.1, su_n hf.2.2.2.2]
theorem pkR_fix {f : Nat} (hf : f ≠ 15 ∧ f ≠ 16 ∧ f ≠ 19 ∧ f ≠ 20 ∧ f ≠ 0) : (pk_R σ).1 f = σ f := by
  unfold pk_R m_wh
  rw [whN_fix ⟨hf.1, hf.2.1⟩, p1_fix hf]
theorem pk_fix {f : Nat} (hf : f ≠ 15 ∧ f ≠ 16 ∧ f ≠ 19 ∧ f ≠ 20 ∧ f ≠ 0) : pk_s σ f = σ f := by
  unfold pk_s
  split
  · exact pkR_fix hf
  · funext j
    unfold m_p3
    rw [if_neg hf.1, if_neg hf.2.1, pkR_fix hf]
theorem pq_start (hm : 0 ≤ σ 17 0) (h1 : ∀ (f : Nat) (z : Int), 1 ≤ f → f ≤ 8 → σ' f z = σ f z) (h17 : σ' 17 0 = σ 17 0) (h2 : ∀ (f : Nat) (j : Int), 10 ≤ f → f ≤ 14 → 0 ≤ j → j < σ 17 0 → σ' f j = σ f j) : PQ (m_p1 (su σ 0 0 0) (σ 17 0)) (m_p1 (su σ' 0 0 0) (σ' 17 0)) := by
  have e17 : ∀ k : Int, m_p1 (su σ 0 0 0) k 17 0 = σ 17 0 := fun k => rfl
  have e17' : ∀ k : Int, m_p1 (su σ' 0 0 0) k 17 0 = σ' 17 0 := fun k => rfl
  have e15 : ∀ (τ : sT) (j : Int), 0 ≤ j → j < τ 17 0 → m_p1 (su τ 0 0 0) (τ 17 0) 15 j = -1 := fun τ j a b => by
    show (if 0 ≤ j ∧ j < τ 17 0 then (-1 : Int) else su τ 0 0 0 15 j) = -1
    exact if_pos ⟨a, b⟩
  refine ⟨fun f z a b => ?_, by rw [e17, e17']; exact h17, fun f j a b x y => ?_, fun j x y ne => ?_⟩
  · rw [p1_fix (by omega), p1_fix (by omega)]; exact h1 f z a b
  · rw [e17] at y
    by_cases z : f = 15
    · subst z
      rw [e15 σ j x y, e15 σ' j x (by omega)]
    · rw [p1_fix (by omega), p1_fix (by omega)]; exact h2 f j a (by omega) x y
  · rw [e17] at y
    exact absurd (e15 σ j x y) ne
theorem pq_R (hB : MB σ) (h1 : ∀ (f : Nat) (z : Int), 1 ≤ f → f ≤ 8 → σ' f z = σ f z) (h17 : σ' 17 0 = σ 17 0) (h2 : ∀ (f : Nat) (j : Int), 10 ≤ f → f ≤ 14 → 0 ≤ j → j < σ 17 0 → σ' f j = σ f j) : (pk_R σ').2 = (pk_R σ).2 ∧ PQ (pk_R σ).1 (pk_R σ').1 := by
  have hm := mb_nm hB
  have hB0 : MB (m_p1 (su σ 0 0 0) (σ 17 0)) := mb_p1 (mb_su hB (show (0 : Int) ≤ 0 ∧ (0 : Int) ≤ 3 by decide)) _
  have a := pq_start hm.1 h1 h17 h2
  unfold pk_R m_wh
  rw [a.cnt hB0]
  exact PQ.whN _ a hB0
theorem mv_01 (τ : sT) (k : Int) : 0 ≤ m_mv τ k ∧ m_mv τ k ≤ 1 := by unfold m_mv; split <;> omega
/-- what packing tells, and what it tells the second time -/
theorem pack_twice (h : IV σ) (h2 : IV (pk_s σ)) : (-1 ≤ pk_a σ ∧ pk_a σ ≤ σ 17 0) ∧ pk_a (pk_s σ) = if pk_a σ < 0 then -1 else 0 := by
  have hm := mb_nm h.1
  have e17 : (pk_R σ).1 17 0 = σ 17 0 := by rw [pkR_fix (by decide)]
  have r := pq_R (σ' := pk_s σ) h.1 (fun f z a b => by rw [pk_fix (by omega)]) (by rw [pk_fix (by decide)]) (fun f j a b x y => by rw [pk_fix (by omega)])
  have s17 : pk_s σ 17 0 = σ 17 0 := by rw [pk_fix (by decide)]
  by_cases c : (pk_R σ).2 = -1
  · have e1 : pk_a σ = sm (m_mv (pk_R σ).1) (σ 17 0) := by unfold pk_a; rw [if_pos c, e17]
    have es : pk_s σ = (pk_R σ).1 := if_pos c
    have hs := sm_le (f := m_mv (pk_R σ).1) (a := 0) (b := 1) hm.1 (fun k _ _ => mv_01 _ k)
    refine ⟨by omega, ?_⟩
    rw [if_neg (by omega)]
    unfold pk_a
    rw [if_pos (by rw [r.1]; exact c), pkR_fix (by decide), s17, sm_cong (g := fun _ => 0) hm.1 (fun k a b => ?_), sm_zero hm.1]
    have q17 : k < (pk_R σ).1 17 0 := by rw [e17]; exact b
    have t15 : (pk_R (pk_s σ)).1 15 k = pk_s σ 15 k := by rw [r.2.2.2.1 15 k (by decide) (by decide) a q17, es]
    have t16 : (pk_R (pk_s σ)).1 16 k = pk_s σ 16 k := by
      rw [r.2.2.2.2 k a q17 (by rw [← es]; exact h2.2.2.1 k a (by rw [s17]; exact b)), es]
    have t19 : (pk_R (pk_s σ)).1 19 k = pk_s σ 15 k := by
      unfold pk_R m_wh
      rw [whN_fix (by decide)]
      show (if 0 ≤ k ∧ k < pk_s σ 17 0 then pk_s σ 15 k else _) = _
      rw [if_pos (by omega)]
    have t20 : (pk_R (pk_s σ)).1 20 k = pk_s σ 16 k := by
      unfold pk_R m_wh
      rw [whN_fix (by decide)]
      show (if 0 ≤ k ∧ k < pk_s σ 17 0 then pk_s σ 16 k else _) = _
      rw [if_pos (by omega)]
    unfold m_mv
    rw [t15, t16, t19, t20]
    exact if_neg (fun z => z.elim (fun y => y rfl) (fun y => y rfl))
  · have e1 : pk_a σ = -1 := if_neg c
    refine ⟨by omega, ?_⟩
    rw [e1, if_pos (by decide)]
    exact if_neg (by rw [r.1]; exact c)
end PKK
