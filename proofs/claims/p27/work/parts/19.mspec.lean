/-! ===== the reference's public calls: what each tells, what it leaves ===== -/
def okR (σ : sT) (r : Int) : Bool := inn r 0 (σ 5 0 - 1)
theorem inn_iff {v lo hi : Int} : inn v lo hi = true ↔ lo ≤ v ∧ v ≤ hi := by unfold inn; rw [Bool.and_eq_true, decide_eq_true_eq, decide_eq_true_eq]
theorem inn_f {v lo hi : Int} : inn v lo hi = false ↔ ¬ (lo ≤ v ∧ v ≤ hi) := by
  rw [← inn_iff]; cases inn v lo hi <;> simp
def aR_ok (row sl w p : Int) : Bool := inn row 0 3 && inn sl 1 20 && inn w 0 10000 && inn p 0 10000
def aR_c (σ : sT) (row sl w p : Int) : Int := if aR_ok row sl w p = true then (if σ 5 0 = 8 then 2 else 0) else 1
def aR_s (σ : sT) (row sl w p : Int) : sT := if aR_c σ row sl w p = 0 then su (su (su (su (su (su σ 0 0 (aR_c σ row sl w p)) 1 (σ 5 0) row) 2 (σ 5 0) sl) 3 (σ 5 0) w) 4 (σ 5 0) p) 5 0 (σ 5 0 + 1) else su σ 0 0 (aR_c σ row sl w p)
def aR_a (σ : sT) (row sl w p : Int) : Int := if aR_c σ row sl w p = 0 then σ 5 0 else 0
theorem aR_c_rng (σ : sT) (row sl w p : Int) : 0 ≤ aR_c σ row sl w p ∧ aR_c σ row sl w p ≤ 3 := by unfold aR_c; (repeat' split) <;> omega
theorem aR_c0 {σ : sT} {row sl w p : Int} (h : aR_c σ row sl w p = 0) : (0 ≤ row ∧ row ≤ 3) ∧ (1 ≤ sl ∧ sl ≤ 20) ∧ (0 ≤ w ∧ w ≤ 10000) ∧ (0 ≤ p ∧ p ≤ 10000) ∧ σ 5 0 ≠ 8 := by
  unfold aR_c at h
  split at h
  · rename_i h1
    unfold aR_ok at h1
    simp only [Bool.and_eq_true, inn_iff] at h1
    split at h
    · omega
    · exact ⟨h1.1.1.1, h1.1.1.2, h1.1.2, h1.2, by assumption⟩
  · omega
def sR_ok (row h w : Int) : Bool := inn row 0 3 && inn h 0 10000 && inn w 0 10000
def sR_c (σ : sT) (row h w : Int) : Int := if sR_ok row h w = true then (if h < m_rowHeats σ row ∨ w < m_rowWeighs σ row then 2 else 0) else 1
def sR_s (σ : sT) (row h w : Int) : sT := if sR_c σ row h w = 0 then su (su (su σ 0 0 (sR_c σ row h w)) 6 row h) 7 row w else su σ 0 0 (sR_c σ row h w)
theorem sR_c_rng (σ : sT) (row h w : Int) : 0 ≤ sR_c σ row h w ∧ sR_c σ row h w ≤ 3 := by unfold sR_c; (repeat' split) <;> omega
theorem sR_c0 {σ : sT} {row h w : Int} (hc : sR_c σ row h w = 0) : (0 ≤ row ∧ row ≤ 3) ∧ (0 ≤ h ∧ h ≤ 10000) ∧ (0 ≤ w ∧ w ≤ 10000) ∧ m_rowHeats σ row ≤ h ∧ m_rowWeighs σ row ≤ w := by
  unfold sR_c at hc
  split at hc
  · rename_i h1
    unfold sR_ok at h1
    simp only [Bool.and_eq_true, inn_iff] at h1
    split at hc
    · omega
    · exact ⟨h1.1.1, h1.1.2, h1.2, by omega, by omega⟩
  · omega
def sF_ok (f p : Int) : Bool := inn f 0 1 && inn p 0 20000
def sF_c (σ : sT) (f p : Int) : Int := if sF_ok f p = true then (if p < m_worst σ (-1) f then 2 else 0) else 1
def sF_s (σ : sT) (f p : Int) : sT := if sF_c σ f p = 0 then su (su σ 0 0 (sF_c σ f p)) 8 f p else su σ 0 0 (sF_c σ f p)
def sF_a (σ : sT) (f p : Int) : Int := if sF_c σ f p = 0 then σ 8 f else 0
theorem sF_c_rng (σ : sT) (f p : Int) : 0 ≤ sF_c σ f p ∧ sF_c σ f p ≤ 3 := by unfold sF_c; (repeat' split) <;> omega
theorem sF_c0 {σ : sT} {f p : Int} (hc : sF_c σ f p = 0) : (0 ≤ f ∧ f ≤ 1) ∧ (0 ≤ p ∧ p ≤ 20000) ∧ m_worst σ (-1) f ≤ p := by
  unfold sF_c at hc
  split at hc
  · rename_i h1
    unfold sF_ok at h1
    simp only [Bool.and_eq_true, inn_iff] at h1
    split at hc
    · omega
    · exact ⟨h1.1, h1.2, by omega⟩
  · omega
/-- 0 where b holds, 1 else -/
def c01 (b : Bool) : Int := if b = true then 0 else 1
theorem c01_rng (b : Bool) : 0 ≤ c01 b ∧ c01 b ≤ 3 := by cases b <;> decide
theorem c01_0 {b : Bool} (h : c01 b = 0) : b = true := by cases b; exact absurd h (by decide); rfl
theorem c01_n {b : Bool} (h : ¬ c01 b = 0) : b = false := by cases b; rfl; exact absurd rfl h
def wF_s (σ : sT) (f : Int) : sT := if c01 (inn f 0 1) = 0 then su (su σ 0 0 (c01 (inn f 0 1))) 9 f (1 - σ 9 f) else su σ 0 0 (c01 (inn f 0 1))
def dk (σ : sT) (k : Int) : Int := if m_dark σ k = true then 1 else 0
def wF_a (σ : sT) (f : Int) : Int := if c01 (inn f 0 1) = 0 then sm (dk (su σ 9 f (1 - σ 9 f))) (σ 17 0) else 0
def fnd_c (σ : sT) (num : Int) : Int := if m_find σ num = -1 then 1 else 0
theorem fnd_c_rng (σ : sT) (num : Int) : 0 ≤ fnd_c σ num ∧ fnd_c σ num ≤ 3 := by unfold fnd_c; split <;> omega
theorem fnd_c0 {σ : sT} (hB : MB σ) {num : Int} (h : fnd_c σ num = 0) : 0 ≤ m_find σ num ∧ m_find σ num < σ 17 0 := by
  have := m_find_rng hB num
  unfold fnd_c at h
  split at h <;> omega
def mA_ok (σ : sT) (r s : Int) : Bool := okR σ r && inn s 0 (σ 2 r - 1)
def mA_a (σ : sT) (r s : Int) : Int := if c01 (mA_ok σ r s) = 0 then (if m_inSlot σ r s = -1 then -1 else σ 10 (m_inSlot σ r s)) else 0
def nx_at (σ : sT) (num : Int) : Int := if num = -1 then -1 else m_find σ num
def nx_c (σ : sT) (num : Int) : Int := if ¬ num = -1 ∧ nx_at σ num = -1 then 1 else 0
theorem nx_c_rng (σ : sT) (num : Int) : 0 ≤ nx_c σ num ∧ nx_c σ num ≤ 3 := by unfold nx_c; split <;> omega
theorem nx_at_rng {σ : sT} (hB : MB σ) (num : Int) : -1 ≤ nx_at σ num ∧ nx_at σ num < 60 ∧ (nx_at σ num = -1 ∨ nx_at σ num < σ 17 0) := by
  have := m_find_rng hB num
  unfold nx_at
  split <;> omega
def nx_b (σ : sT) (num : Int) : Int := if nx_at σ num = -1 then -1 else m_way σ (nx_at σ num)
theorem nx_b_rng {σ : sT} (hB : MB σ) (num : Int) : -20 ≤ nx_b σ num ∧ nx_b σ num ≤ 159 := by
  have h := nx_at_rng hB num
  unfold nx_b
  split
  · omega
  · exact m_way_rng hB (by omega) (by omega)
def m_nbN (σ : sT) (bh : Int) : Nat → Int
  | 0 => -1
  | n + 1 => if bh < m_way σ n ∧ (m_nbN σ bh n = -1 ∨ m_way σ n < m_way σ (m_nbN σ bh n)) then n else m_nbN σ bh n
def m_nb (σ : sT) (bh n : Int) : Int := m_nbN σ bh n.toNat
theorem m_nb_s (σ : sT) (bh : Int) {k : Int} (h : 0 ≤ k) : m_nb σ bh (k + 1) = if bh < m_way σ k ∧ (m_nb σ bh k = -1 ∨ m_way σ k < m_way σ (m_nb σ bh k)) then k else m_nb σ bh k := by
  unfold m_nb
  rw [show (k + 1).toNat = k.toNat + 1 by omega]
  show (if bh < m_way σ ((k.toNat : Nat) : Int) ∧ _ then ((k.toNat : Nat) : Int) else _) = _
  rw [show ((k.toNat : Nat) : Int) = k by omega]
theorem m_nb_rng (σ : sT) (bh : Int) {n : Int} (hn : 0 ≤ n) : m_nb σ bh n = -1 ∨ (0 ≤ m_nb σ bh n ∧ m_nb σ bh n < n) := by
  refine sm_ind (p := fun m => m_nb σ bh m = -1 ∨ (0 ≤ m_nb σ bh m ∧ m_nb σ bh m < m)) n (Or.inl rfl) ?_ hn
  intro k h0 h1 ih
  rw [m_nb_s σ bh h0]
  split
  · exact Or.inr ⟨h0, by omega⟩
  · rcases ih with ih | ih
    · exact Or.inl ih
    · exact Or.inr ⟨ih.1, by omega⟩
def nx_a (σ : sT) (num : Int) : Int := if nx_c σ num = 0 then (if m_nb σ (nx_b σ num) (σ 17 0) = -1 then -1 else σ 10 (m_nb σ (nx_b σ num) (σ 17 0))) else 0
def rf_c (σ : sT) (r f : Int) : Int := if okR σ r = true then (if inn f 0 1 = true then 0 else 2) else 1
theorem rf_c_rng (σ : sT) (r f : Int) : 0 ≤ rf_c σ r f ∧ rf_c σ r f ≤ 3 := by unfold rf_c; (repeat' split) <;> omega
theorem rf_c0 {σ : sT} {r f : Int} (hc : rf_c σ r f = 0) : (0 ≤ r ∧ r ≤ σ 5 0 - 1) ∧ (0 ≤ f ∧ f ≤ 1) := by
  unfold rf_c at hc
  split at hc
  · split at hc
    · rename_i h1 h2
      exact ⟨inn_iff.mp h1, inn_iff.mp h2⟩
    · omega
  · omega
def pwt (σ : sT) (r f k : Int) : Int := if σ 15 k = r then m_tk σ k f else 0
def pO_a (σ : sT) (r f : Int) : Int := if rf_c σ r f = 0 then sm (pwt σ r f) (σ 17 0) else 0
def hO_t (σ : sT) (row k : Int) : Int := if σ 1 (σ 15 k) = row ∧ m_dark σ k = false then σ 12 k else 0
def hO_a (σ : sT) (row : Int) : Int := if c01 (inn row 0 3) = 0 then sm (hO_t σ row) (σ 17 0) else 0
def p2 (r : Int) : Int := 2 ^ r.toNat
def rF_t (σ : sT) (n p w c r : Int) : Int := if m_slotIn σ r n p w c = -1 then 0 else p2 r
def rF_a (σ : sT) (n p w c : Int) : Int := if c01 (m_kind n p w c) = 0 then sm (rF_t σ n p w c) (σ 5 0) else 0
theorem kind_iff {n p w c : Int} : m_kind n p w c = true ↔ (1 ≤ n ∧ n ≤ 6) ∧ (0 ≤ p ∧ p ≤ 2000) ∧ (0 ≤ w ∧ w ≤ 1000) ∧ (0 ≤ c ∧ c ≤ 2) := by
  unfold m_kind
  simp only [Bool.and_eq_true, inn_iff]
  constructor
  · rintro ⟨⟨⟨a, b⟩, c⟩, d⟩; exact ⟨a, b, c, d⟩
  · rintro ⟨a, b, c, d⟩; exact ⟨⟨⟨a, b⟩, c⟩, d⟩
theorem shl_p2 {r : Int} (h : 0 ≤ r ∧ r < 8) : (iI 1) <<< ((iI r) &&& 31) = iI (p2 r) := by
  rcases (show r = 0 ∨ r = 1 ∨ r = 2 ∨ r = 3 ∨ r = 4 ∨ r = 5 ∨ r = 6 ∨ r = 7 by omega) with rfl | rfl | rfl | rfl | rfl | rfl | rfl | rfl <;> decide
section VSHL
variable {p : Program} {l : Launch} {e : Env} {R : Room} {s : State} {m : MethodId} {args : Array Value} {below : List Frame} {meth : Method} {c : Code} {Q : State → Prop} {nl : Nat} {g : gT} {A : Nat → Prop} {h : fH} {cells slots pc : Nat} {lo lo' : List (Option Value)} {st : List Value} {cc : ByteArray} {ret : Option FieldType} {own : String}
theorem v_ishl1 (F : Fx p l s m args meth c cc nl ret own g A) {r : Int} (d : decode cc pc = .ok (.ishl, 1)) (hr : 0 ≤ r ∧ r < 8) (k : V p l e R s m args below meth c Q nl g A h cells slots (pc + 1) lo (.int (iI (p2 r)) :: st)) : V p l e R s m args below meth c Q nl g A h cells slots pc lo (.int (iI r) :: .int (iI 1) :: st) :=
  fun H locs ls hP hS hl => lv_ishl F.1 F.2.1 d (by rw [shl_p2 hr]; exact k H locs ls hP hS hl)
end VSHL
