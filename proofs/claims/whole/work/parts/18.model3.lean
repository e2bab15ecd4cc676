-- X5_isFree
set_option maxRecDepth 100000 in
set_option maxHeartbeats 8000000 in
theorem k_X5_isFree (l : Launch) (g : gT) {P : Nat → Nat} {σ : sT} (hP : mok P) (hB : MB σ) (r fr n : Int) (hr : 0 ≤ r ∧ r < 8) (hf : 0 ≤ fr ∧ fr ≤ 1000) (hn : 0 ≤ n ∧ n ≤ 1000) : CM l g yX5_isFree cX5_isFree 6 (some .boolean) ({ frames := 2, cells := 0, slots := 0, locals := 43 }) [.ref (P 0), .int (iI (r)), .int (iI (fr)), .int (iI (n))] (mheap g P σ) (pV (some (.int (iI (bI (m_free σ r fr n))))) (mheap g P σ)) (noX) := by
  refine CM.of (lo := [some (.ref (P 0)), some (.int (iI (r))), some (.int (iI (fr))), some (.int (iI (n))), none, none]) (by decide) (Nat.le_of_ble_eq_true rfl) (by simp [Value.category]) rfl ?_
  intro pX eX sX mX bX tX cX AX F htab hmn
  have F : Fx pX l sX mX ([.ref (P 0), .int (iI (r)), .int (iI (fr)), .int (iI (n))] : List Value).toArray tX cX cX5_isFree 6 (some .boolean) RX5 g AX := F
  refine v_iload_n F (pc := 0) dX5_isFree_0 rfl ?_
  refine v_iload_n F (pc := 1) dX5_isFree_1 rfl ?_
  refine v_iadd F (pc := 2) (a := fr) (b := n) dX5_isFree_2 ?_
  refine v_aload_n F (pc := 3) dX5_isFree_3 rfl ?_
  refine v_getf F (pc := 4) fd_X5_13_8 (v := .ref (P 2)) dX5_isFree_4 (mh_0 hP) rfl ?_
  refine v_iload_n F (pc := 7) dX5_isFree_7 rfl ?_
  refine v_iald F (pc := 8) (n := 8) (f := σ 2) (z := r) dX5_isFree_8 (mh_2 hP) (by omega) (by decide) ?_
  have b_1 : (0 : Int) ≤ (σ 2) r ∧ (σ 2) r ≤ (20 : Int) := hB 2 r (by omega) (show r < (8 : Int) by omega)
  refine v_icmp_gt F (pc := 9) (a := fr + n) (b := (σ 2) r) 16 dX5_isFree_9 (by decide) (by omega) (by omega) (fun c_2 => ?_) (fun c_2 => ?_)
  · refine v_iconst F (pc := 16) dX5_isFree_16 ?_
    refine v_istore F (pc := 17) (lo' := [some (.ref (P 0)), some (.int (iI (r))), some (.int (iI (fr))), some (.int (iI (n))), some (.int (iI (0))), none]) dX5_isFree_17 (Nat.le_of_ble_eq_true rfl) rfl ?_
    refine v_iload_n F (pc := 19) dX5_isFree_19 rfl ?_
    refine v_istore F (pc := 20) (lo' := [some (.ref (P 0)), some (.int (iI (r))), some (.int (iI (fr))), some (.int (iI (n))), some (.int (iI (0))), some (.int (iI (fr)))]) dX5_isFree_20 (Nat.le_of_ble_eq_true rfl) rfl ?_
    have LP22 : ∀ (N_ : Nat) (s : Int) (b : Bool), (fr ≤ s) → (s ≤ fr + n) → (b = true ↔ (fr + n ≤ σ 2 r ∧ ∀ j, fr ≤ j → j < s → m_inSlot σ r j = -1)) → (fr + n - s).toNat < N_ → VE pX l eX ({ frames := 2, cells := 0, slots := 0, locals := 43 }) sX mX ([.ref (P 0), .int (iI (r)), .int (iI (fr)), .int (iI (n))] : List Value).toArray bX tX cX 6 g AX (mheap g P σ) 0 0 22 [some (.ref (P 0)), some (.int (iI (r))), some (.int (iI (fr))), some (.int (iI (n))), some (.int (iI (bI b))), some (.int (iI (s)))] [] (pV (some (.int (iI (bI (m_free σ r fr n))))) (mheap g P σ)) (noX) 0 0 := by
      intro N_
      induction N_ with
      | zero => intro s b _ _ _ hm_; exact absurd hm_ (Nat.not_lt_zero _)
      | succ N_ ih =>
        intro s b hs0 hs1 hb hm_
        refine v_iload F (pc := 22) dX5_isFree_22 rfl ?_
        refine v_iload_n F (pc := 24) dX5_isFree_24 rfl ?_
        refine v_iload_n F (pc := 25) dX5_isFree_25 rfl ?_
        refine v_iadd F (pc := 26) (a := fr) (b := n) dX5_isFree_26 ?_
        refine v_icmp_ge F (pc := 27) (a := s) (b := fr + n) 59 dX5_isFree_27 (by decide) (by omega) (by omega) (fun c_3 => ?_) (fun c_3 => ?_)
        · refine v_iload F (pc := 59) dX5_isFree_59 rfl ?_
          refine v_iret F (pc := 61) (z := (iI (bI b))) dX5_isFree_61 rfl (by first | rfl | exact nar_bI _ | decide) (Nat.le_of_ble_eq_true rfl) (Nat.le_of_ble_eq_true rfl) ?_
          exact ⟨congrArg (fun z => some (Value.int (iI (bI z)))) (m_free_eq hn.1 hs1 hb (by first | exact Or.inl (by omega) | exact Or.inr (by assumption))), rfl⟩
        · refine v_iload F (pc := 30) dX5_isFree_30 rfl ?_
          refine v_if_eqB F (pc := 32) (b := b) 59 dX5_isFree_32 (by decide) (fun c_4 => ?_) (fun c_4 => ?_)
          · refine v_iload F (pc := 59) dX5_isFree_59 rfl ?_
            refine v_iret F (pc := 61) (z := (iI (bI b))) dX5_isFree_61 rfl (by first | rfl | exact nar_bI _ | decide) (Nat.le_of_ble_eq_true rfl) (Nat.le_of_ble_eq_true rfl) ?_
            exact ⟨congrArg (fun z => some (Value.int (iI (bI z)))) (m_free_eq hn.1 hs1 hb (by first | exact Or.inl (by omega) | exact Or.inr (by assumption))), rfl⟩
          · refine v_aload_n F (pc := 35) dX5_isFree_35 rfl ?_
            refine v_iload_n F (pc := 36) dX5_isFree_36 rfl ?_
            refine v_iload F (pc := 37) dX5_isFree_37 rfl ?_
            refine v_callVp F (pc := 39) (As := [.int (iI (r)), .int (iI (s))]) (rest := []) ci_X5_101 ct_X5_inSlot cs_X5_inSlot (k_X5_inSlot l g hP hB r s (by omega) (by omega)) dX5_isFree_39 (k0 := 8) rfl rfl (mh_0 hP) rfl rfl (Nat.le_of_ble_eq_true rfl) (Nat.le_of_ble_eq_true rfl) (Nat.le_of_ble_eq_true rfl) (Nat.le_of_ble_eq_true rfl) (Nat.le_of_ble_eq_true rfl) ?_ (fun _ _ z => z.elim)
            have rg_5 := m_inSlot_rng hB r s
            refine v_iconst F (pc := 42) dX5_isFree_42 ?_
            refine v_icmp_ne F (pc := 43) (a := m_inSlot σ r s) (b := -1) 50 dX5_isFree_43 (by decide) (by omega) (by omega) (fun c_6 => ?_) (fun c_6 => ?_)
            · refine v_iconst F (pc := 50) dX5_isFree_50 ?_
              refine v_istore F (pc := 51) (lo' := [some (.ref (P 0)), some (.int (iI (r))), some (.int (iI (fr))), some (.int (iI (n))), some (.int (iI (0))), some (.int (iI (s)))]) dX5_isFree_51 (Nat.le_of_ble_eq_true rfl) rfl ?_
              refine v_iinc F (pc := 53) (lo' := [some (.ref (P 0)), some (.int (iI (r))), some (.int (iI (fr))), some (.int (iI (n))), some (.int (iI (0))), some (.int (iI (s + 1)))]) dX5_isFree_53 rfl (Nat.le_of_ble_eq_true rfl) rfl ?_
              refine v_goto F (pc := 56) 22 dX5_isFree_56 (by decide) ?_
              exact ih (s + 1) false (by omega) (by omega) ⟨fun q => (by cases q), fun q => absurd (q.2 s (by omega) (by omega)) (by assumption)⟩ (by omega)
            · refine v_iconst F (pc := 46) dX5_isFree_46 ?_
              refine v_goto F (pc := 47) 51 dX5_isFree_47 (by decide) ?_
              refine v_istore F (pc := 51) (lo' := [some (.ref (P 0)), some (.int (iI (r))), some (.int (iI (fr))), some (.int (iI (n))), some (.int (iI (1))), some (.int (iI (s)))]) dX5_isFree_51 (Nat.le_of_ble_eq_true rfl) rfl ?_
              refine v_iinc F (pc := 53) (lo' := [some (.ref (P 0)), some (.int (iI (r))), some (.int (iI (fr))), some (.int (iI (n))), some (.int (iI (1))), some (.int (iI (s + 1)))]) dX5_isFree_53 rfl (Nat.le_of_ble_eq_true rfl) rfl ?_
              refine v_goto F (pc := 56) 22 dX5_isFree_56 (by decide) ?_
              exact ih (s + 1) true (by omega) (by omega) ⟨fun _ => ⟨(hb.mp (by assumption)).1, fun j a b_ => by rcases Int.lt_or_le j s with q | q; exact (hb.mp (by assumption)).2 j a q; rw [show j = s by omega]; assumption⟩, fun _ => rfl⟩ (by omega)
    exact LP22 _ fr false (Int.le_refl fr) (by omega) ⟨fun q => (by cases q), fun q => (by omega)⟩ (Nat.lt_succ_self _)
  · refine v_iconst F (pc := 12) dX5_isFree_12 ?_
    refine v_goto F (pc := 13) 17 dX5_isFree_13 (by decide) ?_
    refine v_istore F (pc := 17) (lo' := [some (.ref (P 0)), some (.int (iI (r))), some (.int (iI (fr))), some (.int (iI (n))), some (.int (iI (1))), none]) dX5_isFree_17 (Nat.le_of_ble_eq_true rfl) rfl ?_
    refine v_iload_n F (pc := 19) dX5_isFree_19 rfl ?_
    refine v_istore F (pc := 20) (lo' := [some (.ref (P 0)), some (.int (iI (r))), some (.int (iI (fr))), some (.int (iI (n))), some (.int (iI (1))), some (.int (iI (fr)))]) dX5_isFree_20 (Nat.le_of_ble_eq_true rfl) rfl ?_
    have LP22 : ∀ (N_ : Nat) (s : Int) (b : Bool), (fr ≤ s) → (s ≤ fr + n) → (b = true ↔ (fr + n ≤ σ 2 r ∧ ∀ j, fr ≤ j → j < s → m_inSlot σ r j = -1)) → (fr + n - s).toNat < N_ → VE pX l eX ({ frames := 2, cells := 0, slots := 0, locals := 43 }) sX mX ([.ref (P 0), .int (iI (r)), .int (iI (fr)), .int (iI (n))] : List Value).toArray bX tX cX 6 g AX (mheap g P σ) 0 0 22 [some (.ref (P 0)), some (.int (iI (r))), some (.int (iI (fr))), some (.int (iI (n))), some (.int (iI (bI b))), some (.int (iI (s)))] [] (pV (some (.int (iI (bI (m_free σ r fr n))))) (mheap g P σ)) (noX) 0 0 := by
      intro N_
      induction N_ with
      | zero => intro s b _ _ _ hm_; exact absurd hm_ (Nat.not_lt_zero _)
      | succ N_ ih =>
        intro s b hs0 hs1 hb hm_
        refine v_iload F (pc := 22) dX5_isFree_22 rfl ?_
        refine v_iload_n F (pc := 24) dX5_isFree_24 rfl ?_
        refine v_iload_n F (pc := 25) dX5_isFree_25 rfl ?_
        refine v_iadd F (pc := 26) (a := fr) (b := n) dX5_isFree_26 ?_
        refine v_icmp_ge F (pc := 27) (a := s) (b := fr + n) 59 dX5_isFree_27 (by decide) (by omega) (by omega) (fun c_7 => ?_) (fun c_7 => ?_)
        · refine v_iload F (pc := 59) dX5_isFree_59 rfl ?_
          refine v_iret F (pc := 61) (z := (iI (bI b))) dX5_isFree_61 rfl (by first | rfl | exact nar_bI _ | decide) (Nat.le_of_ble_eq_true rfl) (Nat.le_of_ble_eq_true rfl) ?_
          exact ⟨congrArg (fun z => some (Value.int (iI (bI z)))) (m_free_eq hn.1 hs1 hb (by first | exact Or.inl (by omega) | exact Or.inr (by assumption))), rfl⟩
        · refine v_iload F (pc := 30) dX5_isFree_30 rfl ?_
          refine v_if_eqB F (pc := 32) (b := b) 59 dX5_isFree_32 (by decide) (fun c_8 => ?_) (fun c_8 => ?_)
          · refine v_iload F (pc := 59) dX5_isFree_59 rfl ?_
            refine v_iret F (pc := 61) (z := (iI (bI b))) dX5_isFree_61 rfl (by first | rfl | exact nar_bI _ | decide) (Nat.le_of_ble_eq_true rfl) (Nat.le_of_ble_eq_true rfl) ?_
            exact ⟨congrArg (fun z => some (Value.int (iI (bI z)))) (m_free_eq hn.1 hs1 hb (by first | exact Or.inl (by omega) | exact Or.inr (by assumption))), rfl⟩
          · refine v_aload_n F (pc := 35) dX5_isFree_35 rfl ?_
            refine v_iload_n F (pc := 36) dX5_isFree_36 rfl ?_
            refine v_iload F (pc := 37) dX5_isFree_37 rfl ?_
            refine v_callVp F (pc := 39) (As := [.int (iI (r)), .int (iI (s))]) (rest := []) ci_X5_101 ct_X5_inSlot cs_X5_inSlot (k_X5_inSlot l g hP hB r s (by omega) (by omega)) dX5_isFree_39 (k0 := 8) rfl rfl (mh_0 hP) rfl rfl (Nat.le_of_ble_eq_true rfl) (Nat.le_of_ble_eq_true rfl) (Nat.le_of_ble_eq_true rfl) (Nat.le_of_ble_eq_true rfl) (Nat.le_of_ble_eq_true rfl) ?_ (fun _ _ z => z.elim)
            have rg_9 := m_inSlot_rng hB r s
            refine v_iconst F (pc := 42) dX5_isFree_42 ?_
            refine v_icmp_ne F (pc := 43) (a := m_inSlot σ r s) (b := -1) 50 dX5_isFree_43 (by decide) (by omega) (by omega) (fun c_10 => ?_) (fun c_10 => ?_)
            · refine v_iconst F (pc := 50) dX5_isFree_50 ?_
              refine v_istore F (pc := 51) (lo' := [some (.ref (P 0)), some (.int (iI (r))), some (.int (iI (fr))), some (.int (iI (n))), some (.int (iI (0))), some (.int (iI (s)))]) dX5_isFree_51 (Nat.le_of_ble_eq_true rfl) rfl ?_
              refine v_iinc F (pc := 53) (lo' := [some (.ref (P 0)), some (.int (iI (r))), some (.int (iI (fr))), some (.int (iI (n))), some (.int (iI (0))), some (.int (iI (s + 1)))]) dX5_isFree_53 rfl (Nat.le_of_ble_eq_true rfl) rfl ?_
              refine v_goto F (pc := 56) 22 dX5_isFree_56 (by decide) ?_
              exact ih (s + 1) false (by omega) (by omega) ⟨fun q => (by cases q), fun q => absurd (q.2 s (by omega) (by omega)) (by assumption)⟩ (by omega)
            · refine v_iconst F (pc := 46) dX5_isFree_46 ?_
              refine v_goto F (pc := 47) 51 dX5_isFree_47 (by decide) ?_
              refine v_istore F (pc := 51) (lo' := [some (.ref (P 0)), some (.int (iI (r))), some (.int (iI (fr))), some (.int (iI (n))), some (.int (iI (1))), some (.int (iI (s)))]) dX5_isFree_51 (Nat.le_of_ble_eq_true rfl) rfl ?_
              refine v_iinc F (pc := 53) (lo' := [some (.ref (P 0)), some (.int (iI (r))), some (.int (iI (fr))), some (.int (iI (n))), some (.int (iI (1))), some (.int (iI (s + 1)))]) dX5_isFree_53 rfl (Nat.le_of_ble_eq_true rfl) rfl ?_
              refine v_goto F (pc := 56) 22 dX5_isFree_56 (by decide) ?_
              exact ih (s + 1) true (by omega) (by omega) ⟨fun _ => ⟨(hb.mp (by assumption)).1, fun j a b_ => by rcases Int.lt_or_le j s with q | q; exact (hb.mp (by assumption)).2 j a q; rw [show j = s by omega]; assumption⟩, fun _ => rfl⟩ (by omega)
    exact LP22 _ fr true (Int.le_refl fr) (by omega) ⟨fun _ => ⟨by omega, fun j a b_ => by omega⟩, fun _ => rfl⟩ (Nat.lt_succ_self _)
-- X5_isBorne
set_option maxRecDepth 100000 in
set_option maxHeartbeats 8000000 in
theorem k_X5_isBorne (l : Launch) (g : gT) {P : Nat → Nat} {σ : sT} (hP : mok P) (hB : MB σ) (r p w c : Int) (hr : 0 ≤ r ∧ r < 8) (hp : 0 ≤ p ∧ p ≤ 100000) (hw : 0 ≤ w ∧ w ≤ 100000) (hc : 0 ≤ c ∧ c ≤ 2) : CM l g yX5_isBorne cX5_isBorne 9 (some .boolean) ({ frames := 3, cells := 0, slots := 0, locals := 66 }) [.ref (P 0), .int (iI (r)), .int (iI (p)), .int (iI (w)), .int (iI (c))] (mheap g P σ) (pV (some (.int (iI (bI (m_borne σ r p w c))))) (mheap g P σ)) (noX) := by
  refine CM.of (lo := [some (.ref (P 0)), some (.int (iI (r))), some (.int (iI (p))), some (.int (iI (w))), some (.int (iI (c))), none, none, none, none]) (by decide) (Nat.le_of_ble_eq_true rfl) (by simp [Value.category]) rfl ?_
  intro pX eX sX mX bX tX cX AX F htab hmn
  have F : Fx pX l sX mX ([.ref (P 0), .int (iI (r)), .int (iI (p)), .int (iI (w)), .int (iI (c))] : List Value).toArray tX cX cX5_isBorne 9 (some .boolean) RX5 g AX := F
  refine v_aload_n F (pc := 0) dX5_isBorne_0 rfl ?_
  refine v_getf F (pc := 1) fd_X5_7_8 (v := .ref (P 1)) dX5_isBorne_1 (mh_0 hP) rfl ?_
  refine v_iload_n F (pc := 4) dX5_isBorne_4 rfl ?_
  refine v_iald F (pc := 5) (n := 8) (f := σ 1) (z := r) dX5_isBorne_5 (mh_1 hP) (by omega) (by decide) ?_
  have b_1 : (0 : Int) ≤ (σ 1) r ∧ (σ 1) r ≤ (3 : Int) := hB 1 r (by omega) (show r < (8 : Int) by omega)
  refine v_istore F (pc := 6) (lo' := [some (.ref (P 0)), some (.int (iI (r))), some (.int (iI (p))), some (.int (iI (w))), some (.int (iI (c))), some (.int (iI ((σ 1) r))), none, none, none]) dX5_isBorne_6 (Nat.le_of_ble_eq_true rfl) rfl ?_
  have J_2 : VE pX l eX ({ frames := 3, cells := 0, slots := 0, locals := 66 }) sX mX ([.ref (P 0), .int (iI (r)), .int (iI (p)), .int (iI (w)), .int (iI (c))] : List Value).toArray bX tX cX 9 g AX (mheap g P σ) 0 0 65 [some (.ref (P 0)), some (.int (iI (r))), some (.int (iI (p))), some (.int (iI (w))), some (.int (iI (c))), some (.int (iI ((σ 1) r))), none, none, none] [.int (iI (bI (m_b0 σ r p w)))] (pV (some (.int (iI (bI (m_borne σ r p w c))))) (mheap g P σ)) (noX) 0 0 := by
    refine v_istore F (pc := 65) (lo' := [some (.ref (P 0)), some (.int (iI (r))), some (.int (iI (p))), some (.int (iI (w))), some (.int (iI (c))), some (.int (iI ((σ 1) r))), some (.int (iI (bI (m_b0 σ r p w)))), none, none]) dX5_isBorne_65 (Nat.le_of_ble_eq_true rfl) rfl ?_
    refine v_iconst F (pc := 67) dX5_isBorne_67 ?_
    refine v_istore F (pc := 68) (lo' := [some (.ref (P 0)), some (.int (iI (r))), some (.int (iI (p))), some (.int (iI (w))), some (.int (iI (c))), some (.int (iI ((σ 1) r))), some (.int (iI (bI (m_b0 σ r p w)))), some (.int (iI (0))), none]) dX5_isBorne_68 (Nat.le_of_ble_eq_true rfl) rfl ?_
    refine v_iload F (pc := 70) dX5_isBorne_70 rfl ?_
    refine v_iconst F (pc := 72) dX5_isBorne_72 ?_
    refine v_icmp_ge F (pc := 73) (a := 0) (b := 2) 150 dX5_isBorne_73 (by decide) (by omega) (by omega) (fun c_3 => ?_) (fun c_3 => ?_)
    · exact absurd c_3 (by decide)
    · have J_4 : VE pX l eX ({ frames := 3, cells := 0, slots := 0, locals := 66 }) sX mX ([.ref (P 0), .int (iI (r)), .int (iI (p)), .int (iI (w)), .int (iI (c))] : List Value).toArray bX tX cX 9 g AX (mheap g P σ) 0 0 142 [some (.ref (P 0)), some (.int (iI (r))), some (.int (iI (p))), some (.int (iI (w))), some (.int (iI (c))), some (.int (iI ((σ 1) r))), some (.int (iI (bI (m_b0 σ r p w)))), some (.int (iI (0))), some (.int (iI (m_pw c 0 p)))] [.int (iI (bI ((m_b0 σ r p w) && m_bf σ r p c 0)))] (pV (some (.int (iI (bI (m_borne σ r p w c))))) (mheap g P σ)) (noX) 0 0 := by
        refine v_istore F (pc := 142) (lo' := [some (.ref (P 0)), some (.int (iI (r))), some (.int (iI (p))), some (.int (iI (w))), some (.int (iI (c))), some (.int (iI ((σ 1) r))), some (.int (iI (bI ((m_b0 σ r p w) && m_bf σ r p c 0)))), some (.int (iI (0))), some (.int (iI (m_pw c 0 p)))]) dX5_isBorne_142 (Nat.le_of_ble_eq_true rfl) rfl ?_
        refine v_iinc F (pc := 144) (lo' := [some (.ref (P 0)), some (.int (iI (r))), some (.int (iI (p))), some (.int (iI (w))), some (.int (iI (c))), some (.int (iI ((σ 1) r))), some (.int (iI (bI ((m_b0 σ r p w) && m_bf σ r p c 0)))), some (.int (iI (1))), some (.int (iI (m_pw c 0 p)))]) dX5_isBorne_144 rfl (Nat.le_of_ble_eq_true rfl) rfl ?_
        refine v_goto F (pc := 147) 70 dX5_isBorne_147 (by decide) ?_
        refine v_iload F (pc := 70) dX5_isBorne_70 rfl ?_
        refine v_iconst F (pc := 72) dX5_isBorne_72 ?_
        refine v_icmp_ge F (pc := 73) (a := 1) (b := 2) 150 dX5_isBorne_73 (by decide) (by omega) (by omega) (fun c_5 => ?_) (fun c_5 => ?_)
        · exact absurd c_5 (by decide)
        · have J_6 : VE pX l eX ({ frames := 3, cells := 0, slots := 0, locals := 66 }) sX mX ([.ref (P 0), .int (iI (r)), .int (iI (p)), .int (iI (w)), .int (iI (c))] : List Value).toArray bX tX cX 9 g AX (mheap g P σ) 0 0 142 [some (.ref (P 0)), some (.int (iI (r))), some (.int (iI (p))), some (.int (iI (w))), some (.int (iI (c))), some (.int (iI ((σ 1) r))), some (.int (iI (bI ((m_b0 σ r p w) && m_bf σ r p c 0)))), some (.int (iI (1))), some (.int (iI (m_pw c 1 p)))] [.int (iI (bI (((m_b0 σ r p w) && m_bf σ r p c 0) && m_bf σ r p c 1)))] (pV (some (.int (iI (bI (m_borne σ r p w c))))) (mheap g P σ)) (noX) 0 0 := by
            refine v_istore F (pc := 142) (lo' := [some (.ref (P 0)), some (.int (iI (r))), some (.int (iI (p))), some (.int (iI (w))), some (.int (iI (c))), some (.int (iI ((σ 1) r))), some (.int (iI (bI (((m_b0 σ r p w) && m_bf σ r p c 0) && m_bf σ r p c 1)))), some (.int (iI (1))), some (.int (iI (m_pw c 1 p)))]) dX5_isBorne_142 (Nat.le_of_ble_eq_true rfl) rfl ?_
            refine v_iinc F (pc := 144) (lo' := [some (.ref (P 0)), some (.int (iI (r))), some (.int (iI (p))), some (.int (iI (w))), some (.int (iI (c))), some (.int (iI ((σ 1) r))), some (.int (iI (bI (((m_b0 σ r p w) && m_bf σ r p c 0) && m_bf σ r p c 1)))), some (.int (iI (2))), some (.int (iI (m_pw c 1 p)))]) dX5_isBorne_144 rfl (Nat.le_of_ble_eq_true rfl) rfl ?_
            refine v_goto F (pc := 147) 70 dX5_isBorne_147 (by decide) ?_
            refine v_iload F (pc := 70) dX5_isBorne_70 rfl ?_
            refine v_iconst F (pc := 72) dX5_isBorne_72 ?_
            refine v_icmp_ge F (pc := 73) (a := 2) (b := 2) 150 dX5_isBorne_73 (by decide) (by omega) (by omega) (fun c_7 => ?_) (fun c_7 => ?_)
            · refine v_iload F (pc := 150) dX5_isBorne_150 rfl ?_
              refine v_iret F (pc := 152) (z := (iI (bI (((m_b0 σ r p w) && m_bf σ r p c 0) && m_bf σ r p c 1)))) dX5_isBorne_152 rfl (by first | rfl | exact nar_bI _ | decide) (Nat.le_of_ble_eq_true rfl) (Nat.le_of_ble_eq_true rfl) ?_
              exact ⟨rfl, rfl⟩
            · exact absurd c_7 (by decide)
          have J_8 : VE pX l eX ({ frames := 3, cells := 0, slots := 0, locals := 66 }) sX mX ([.ref (P 0), .int (iI (r)), .int (iI (p)), .int (iI (w)), .int (iI (c))] : List Value).toArray bX tX cX 9 g AX (mheap g P σ) 0 0 91 [some (.ref (P 0)), some (.int (iI (r))), some (.int (iI (p))), some (.int (iI (w))), some (.int (iI (c))), some (.int (iI ((σ 1) r))), some (.int (iI (bI ((m_b0 σ r p w) && m_bf σ r p c 0)))), some (.int (iI (1))), some (.int (iI (m_pw c 0 p)))] [.int (iI (m_pw c 1 p))] (pV (some (.int (iI (bI (m_borne σ r p w c))))) (mheap g P σ)) (noX) 0 0 := by
            have pw_9 := m_pw_rng c 1 hp
            refine v_istore F (pc := 91) (lo' := [some (.ref (P 0)), some (.int (iI (r))), some (.int (iI (p))), some (.int (iI (w))), some (.int (iI (c))), some (.int (iI ((σ 1) r))), some (.int (iI (bI ((m_b0 σ r p w) && m_bf σ r p c 0)))), some (.int (iI (1))), some (.int (iI (m_pw c 1 p)))]) dX5_isBorne_91 (Nat.le_of_ble_eq_true rfl) rfl ?_
            refine v_iload F (pc := 93) dX5_isBorne_93 rfl ?_
            refine v_if_eqB F (pc := 95) (b := ((m_b0 σ r p w) && m_bf σ r p c 0)) 141 dX5_isBorne_95 (by decide) (fun c_10 => ?_) (fun c_10 => ?_)
            · refine v_iconst F (pc := 141) dX5_isBorne_141 ?_
              exact V.to J_6 rfl rfl (by exact congrArg (fun z => [Value.int (iI z)]) (by first | exact bf_t (by assumption) (by assumption) (by assumption) | exact bf_1 (by assumption) | exact bf_2 (by assumption) | exact bf_3 (by assumption)))
            · refine v_aload_n F (pc := 98) dX5_isBorne_98 rfl ?_
              refine v_iload_n F (pc := 99) dX5_isBorne_99 rfl ?_
              refine v_iload F (pc := 100) dX5_isBorne_100 rfl ?_
              refine v_callVp F (pc := 102) (As := [.int (iI (r)), .int (iI (1))]) (rest := []) ci_X5_94 ct_X5_worst cs_X5_worst (k_X5_worst l g hP hB r 1 (by omega) (by omega)) dX5_isBorne_102 (k0 := 8) rfl rfl (mh_0 hP) rfl rfl (Nat.le_of_ble_eq_true rfl) (Nat.le_of_ble_eq_true rfl) (Nat.le_of_ble_eq_true rfl) (Nat.le_of_ble_eq_true rfl) (Nat.le_of_ble_eq_true rfl) ?_ (fun _ _ z => z.elim)
              have rg_11 := m_worst_rng hB r 1
              refine v_iload F (pc := 105) dX5_isBorne_105 rfl ?_
              refine v_iadd F (pc := 107) (a := m_worst σ r 1) (b := m_pw c 1 p) dX5_isBorne_107 ?_
              refine v_aload_n F (pc := 108) dX5_isBorne_108 rfl ?_
              refine v_getf F (pc := 109) fd_X5_19_8 (v := .ref (P 4)) dX5_isBorne_109 (mh_0 hP) rfl ?_
              refine v_iload_n F (pc := 112) dX5_isBorne_112 rfl ?_
              refine v_iald F (pc := 113) (n := 8) (f := σ 4) (z := r) dX5_isBorne_113 (mh_4 hP) (by omega) (by decide) ?_
              have b_12 : (0 : Int) ≤ (σ 4) r ∧ (σ 4) r ≤ (10000 : Int) := hB 4 r (by omega) (show r < (8 : Int) by omega)
              refine v_icmp_gt F (pc := 114) (a := (m_worst σ r 1) + (m_pw c 1 p)) (b := (σ 4) r) 141 dX5_isBorne_114 (by decide) (by omega) (by omega) (fun c_13 => ?_) (fun c_13 => ?_)
              · refine v_iconst F (pc := 141) dX5_isBorne_141 ?_
                exact V.to J_6 rfl rfl (by exact congrArg (fun z => [Value.int (iI z)]) (by first | exact bf_t (by assumption) (by assumption) (by assumption) | exact bf_1 (by assumption) | exact bf_2 (by assumption) | exact bf_3 (by assumption)))
              · refine v_aload_n F (pc := 117) dX5_isBorne_117 rfl ?_
                refine v_iconst F (pc := 118) dX5_isBorne_118 ?_
                refine v_iload F (pc := 119) dX5_isBorne_119 rfl ?_
                refine v_callVp F (pc := 121) (As := [.int (iI (-1)), .int (iI (1))]) (rest := []) ci_X5_94 ct_X5_worst cs_X5_worst (k_X5_worst l g hP hB (-1) 1 (by omega) (by omega)) dX5_isBorne_121 (k0 := 8) rfl rfl (mh_0 hP) rfl rfl (Nat.le_of_ble_eq_true rfl) (Nat.le_of_ble_eq_true rfl) (Nat.le_of_ble_eq_true rfl) (Nat.le_of_ble_eq_true rfl) (Nat.le_of_ble_eq_true rfl) ?_ (fun _ _ z => z.elim)
                have rg_14 := m_worst_rng hB (-1) 1
                refine v_iload F (pc := 124) dX5_isBorne_124 rfl ?_
                refine v_iadd F (pc := 126) (a := m_worst σ (-1) 1) (b := m_pw c 1 p) dX5_isBorne_126 ?_
                refine v_aload_n F (pc := 127) dX5_isBorne_127 rfl ?_
                refine v_getf F (pc := 128) fd_X5_28_8 (v := .ref (P 8)) dX5_isBorne_128 (mh_0 hP) rfl ?_
                refine v_iload F (pc := 131) dX5_isBorne_131 rfl ?_
                refine v_iald F (pc := 133) (n := 2) (f := σ 8) (z := 1) dX5_isBorne_133 (mh_8 hP) (by omega) (by decide) ?_
                have b_15 : (0 : Int) ≤ (σ 8) 1 ∧ (σ 8) 1 ≤ (20000 : Int) := hB 8 1 (by omega) (show 1 < (2 : Int) by omega)
                refine v_icmp_gt F (pc := 134) (a := (m_worst σ (-1) 1) + (m_pw c 1 p)) (b := (σ 8) 1) 141 dX5_isBorne_134 (by decide) (by omega) (by omega) (fun c_16 => ?_) (fun c_16 => ?_)
                · refine v_iconst F (pc := 141) dX5_isBorne_141 ?_
                  exact V.to J_6 rfl rfl (by exact congrArg (fun z => [Value.int (iI z)]) (by first | exact bf_t (by assumption) (by assumption) (by assumption) | exact bf_1 (by assumption) | exact bf_2 (by assumption) | exact bf_3 (by assumption)))
                · refine v_iconst F (pc := 137) dX5_isBorne_137 ?_
                  refine v_goto F (pc := 138) 142 dX5_isBorne_138 (by decide) ?_
                  exact V.to J_6 rfl rfl (by exact congrArg (fun z => [Value.int (iI z)]) (by first | exact bf_t (by assumption) (by assumption) (by assumption) | exact bf_1 (by assumption) | exact bf_2 (by assumption) | exact bf_3 (by assumption)))
          refine v_iload F (pc := 76) dX5_isBorne_76 rfl ?_
          refine v_iload F (pc := 78) dX5_isBorne_78 rfl ?_
          refine v_callSp F (pc := 80) (As := [.int (iI (c)), .int (iI (1))]) (rest := []) ci_X5_76 ct_X5_isCorded (k_X5_isCorded l g c 1 (by omega) (by omega)) dX5_isBorne_80 rfl rfl (Nat.le_of_ble_eq_true rfl) (Nat.le_of_ble_eq_true rfl) (Nat.le_of_ble_eq_true rfl) (Nat.le_of_ble_eq_true rfl) (Nat.le_of_ble_eq_true rfl) ?_ (fun _ _ z => z.elim)
          refine v_if_eqB F (pc := 83) (b := (cdd c 1)) 90 dX5_isBorne_83 (by decide) (fun c_17 => ?_) (fun c_17 => ?_)
          · refine v_iconst F (pc := 90) dX5_isBorne_90 ?_
            exact V.to J_8 rfl rfl (by simp only [m_pw]; simp_all)
          · refine v_iload_n F (pc := 86) dX5_isBorne_86 rfl ?_
            refine v_goto F (pc := 87) 91 dX5_isBorne_87 (by decide) ?_
            exact V.to J_8 rfl rfl (by simp only [m_pw]; simp_all)
      have J_18 : VE pX l eX ({ frames := 3, cells := 0, slots := 0, locals := 66 }) sX mX ([.ref (P 0), .int (iI (r)), .int (iI (p)), .int (iI (w)), .int (iI (c))] : List Value).toArray bX tX cX 9 g AX (mheap g P σ) 0 0 91 [some (.ref (P 0)), some (.int (iI (r))), some (.int (iI (p))), some (.int (iI (w))), some (.int (iI (c))), some (.int (iI ((σ 1) r))), some (.int (iI (bI (m_b0 σ r p w)))), some (.int (iI (0))), none] [.int (iI (m_pw c 0 p))] (pV (some (.int (iI (bI (m_borne σ r p w c))))) (mheap g P σ)) (noX) 0 0 := by
        have pw_19 := m_pw_rng c 0 hp
        refine v_istore F (pc := 91) (lo' := [some (.ref (P 0)), some (.int (iI (r))), some (.int (iI (p))), some (.int (iI (w))), some (.int (iI (c))), some (.int (iI ((σ 1) r))), some (.int (iI (bI (m_b0 σ r p w)))), some (.int (iI (0))), some (.int (iI (m_pw c 0 p)))]) dX5_isBorne_91 (Nat.le_of_ble_eq_true rfl) rfl ?_
        refine v_iload F (pc := 93) dX5_isBorne_93 rfl ?_
        refine v_if_eqB F (pc := 95) (b := (m_b0 σ r p w)) 141 dX5_isBorne_95 (by decide) (fun c_20 => ?_) (fun c_20 => ?_)
        · refine v_iconst F (pc := 141) dX5_isBorne_141 ?_
          exact V.to J_4 rfl rfl (by exact congrArg (fun z => [Value.int (iI z)]) (by first | exact bf_t (by assumption) (by assumption) (by assumption) | exact bf_1 (by assumption) | exact bf_2 (by assumption) | exact bf_3 (by assumption)))
        · refine v_aload_n F (pc := 98) dX5_isBorne_98 rfl ?_
          refine v_iload_n F (pc := 99) dX5_isBorne_99 rfl ?_
          refine v_iload F (pc := 100) dX5_isBorne_100 rfl ?_
          refine v_callVp F (pc := 102) (As := [.int (iI (r)), .int (iI (0))]) (rest := []) ci_X5_94 ct_X5_worst cs_X5_worst (k_X5_worst l g hP hB r 0 (by omega) (by omega)) dX5_isBorne_102 (k0 := 8) rfl rfl (mh_0 hP) rfl rfl (Nat.le_of_ble_eq_true rfl) (Nat.le_of_ble_eq_true rfl) (Nat.le_of_ble_eq_true rfl) (Nat.le_of_ble_eq_true rfl) (Nat.le_of_ble_eq_true rfl) ?_ (fun _ _ z => z.elim)
          have rg_21 := m_worst_rng hB r 0
          refine v_iload F (pc := 105) dX5_isBorne_105 rfl ?_
          refine v_iadd F (pc := 107) (a := m_worst σ r 0) (b := m_pw c 0 p) dX5_isBorne_107 ?_
          refine v_aload_n F (pc := 108) dX5_isBorne_108 rfl ?_
          refine v_getf F (pc := 109) fd_X5_19_8 (v := .ref (P 4)) dX5_isBorne_109 (mh_0 hP) rfl ?_
          refine v_iload_n F (pc := 112) dX5_isBorne_112 rfl ?_
          refine v_iald F (pc := 113) (n := 8) (f := σ 4) (z := r) dX5_isBorne_113 (mh_4 hP) (by omega) (by decide) ?_
          have b_22 : (0 : Int) ≤ (σ 4) r ∧ (σ 4) r ≤ (10000 : Int) := hB 4 r (by omega) (show r < (8 : Int) by omega)
          refine v_icmp_gt F (pc := 114) (a := (m_worst σ r 0) + (m_pw c 0 p)) (b := (σ 4) r) 141 dX5_isBorne_114 (by decide) (by omega) (by omega) (fun c_23 => ?_) (fun c_23 => ?_)
          · refine v_iconst F (pc := 141) dX5_isBorne_141 ?_
            exact V.to J_4 rfl rfl (by exact congrArg (fun z => [Value.int (iI z)]) (by first | exact bf_t (by assumption) (by assumption) (by assumption) | exact bf_1 (by assumption) | exact bf_2 (by assumption) | exact bf_3 (by assumption)))
          · refine v_aload_n F (pc := 117) dX5_isBorne_117 rfl ?_
            refine v_iconst F (pc := 118) dX5_isBorne_118 ?_
            refine v_iload F (pc := 119) dX5_isBorne_119 rfl ?_
            refine v_callVp F (pc := 121) (As := [.int (iI (-1)), .int (iI (0))]) (rest := []) ci_X5_94 ct_X5_worst cs_X5_worst (k_X5_worst l g hP hB (-1) 0 (by omega) (by omega)) dX5_isBorne_121 (k0 := 8) rfl rfl (mh_0 hP) rfl rfl (Nat.le_of_ble_eq_true rfl) (Nat.le_of_ble_eq_true rfl) (Nat.le_of_ble_eq_true rfl) (Nat.le_of_ble_eq_true rfl) (Nat.le_of_ble_eq_true rfl) ?_ (fun _ _ z => z.elim)
            have rg_24 := m_worst_rng hB (-1) 0
            refine v_iload F (pc := 124) dX5_isBorne_124 rfl ?_
            refine v_iadd F (pc := 126) (a := m_worst σ (-1) 0) (b := m_pw c 0 p) dX5_isBorne_126 ?_
            refine v_aload_n F (pc := 127) dX5_isBorne_127 rfl ?_
            refine v_getf F (pc := 128) fd_X5_28_8 (v := .ref (P 8)) dX5_isBorne_128 (mh_0 hP) rfl ?_
            refine v_iload F (pc := 131) dX5_isBorne_131 rfl ?_
            refine v_iald F (pc := 133) (n := 2) (f := σ 8) (z := 0) dX5_isBorne_133 (mh_8 hP) (by omega) (by decide) ?_
            have b_25 : (0 : Int) ≤ (σ 8) 0 ∧ (σ 8) 0 ≤ (20000 : Int) := hB 8 0 (by decide) (by decide)
            refine v_icmp_gt F (pc := 134) (a := (m_worst σ (-1) 0) + (m_pw c 0 p)) (b := (σ 8) 0) 141 dX5_isBorne_134 (by decide) (by omega) (by omega) (fun c_26 => ?_) (fun c_26 => ?_)
            · refine v_iconst F (pc := 141) dX5_isBorne_141 ?_
              exact V.to J_4 rfl rfl (by exact congrArg (fun z => [Value.int (iI z)]) (by first | exact bf_t (by assumption) (by assumption) (by assumption) | exact bf_1 (by assumption) | exact bf_2 (by assumption) | exact bf_3 (by assumption)))
            · refine v_iconst F (pc := 137) dX5_isBorne_137 ?_
              refine v_goto F (pc := 138) 142 dX5_isBorne_138 (by decide) ?_
              exact V.to J_4 rfl rfl (by exact congrArg (fun z => [Value.int (iI z)]) (by first | exact bf_t (by assumption) (by assumption) (by assumption) | exact bf_1 (by assumption) | exact bf_2 (by assumption) | exact bf_3 (by assumption)))
      refine v_iload F (pc := 76) dX5_isBorne_76 rfl ?_
      refine v_iload F (pc := 78) dX5_isBorne_78 rfl ?_
      refine v_callSp F (pc := 80) (As := [.int (iI (c)), .int (iI (0))]) (rest := []) ci_X5_76 ct_X5_isCorded (k_X5_isCorded l g c 0 (by omega) (by omega)) dX5_isBorne_80 rfl rfl (Nat.le_of_ble_eq_true rfl) (Nat.le_of_ble_eq_true rfl) (Nat.le_of_ble_eq_true rfl) (Nat.le_of_ble_eq_true rfl) (Nat.le_of_ble_eq_true rfl) ?_ (fun _ _ z => z.elim)
      refine v_if_eqB F (pc := 83) (b := (cdd c 0)) 90 dX5_isBorne_83 (by decide) (fun c_27 => ?_) (fun c_27 => ?_)
      · refine v_iconst F (pc := 90) dX5_isBorne_90 ?_
        exact V.to J_18 rfl rfl (by simp only [m_pw]; simp_all)
      · refine v_iload_n F (pc := 86) dX5_isBorne_86 rfl ?_
        refine v_goto F (pc := 87) 91 dX5_isBorne_87 (by decide) ?_
        exact V.to J_18 rfl rfl (by simp only [m_pw]; simp_all)
  refine v_aload_n F (pc := 8) dX5_isBorne_8 rfl ?_
  refine v_iload_n F (pc := 9) dX5_isBorne_9 rfl ?_
  refine v_callVp F (pc := 10) (As := [.int (iI (r))]) (rest := []) ci_X5_80 ct_X5_weighs cs_X5_weighs (k_X5_weighs l g hP hB r (by omega)) dX5_isBorne_10 (k0 := 8) rfl rfl (mh_0 hP) rfl rfl (Nat.le_of_ble_eq_true rfl) (Nat.le_of_ble_eq_true rfl) (Nat.le_of_ble_eq_true rfl) (Nat.le_of_ble_eq_true rfl) (Nat.le_of_ble_eq_true rfl) ?_ (fun _ _ z => z.elim)
  have rg_28 := m_weighs_rng hB r
  refine v_iload_n F (pc := 13) dX5_isBorne_13 rfl ?_
  refine v_iadd F (pc := 14) (a := m_weighs σ r) (b := w) dX5_isBorne_14 ?_
  refine v_aload_n F (pc := 15) dX5_isBorne_15 rfl ?_
  refine v_getf F (pc := 16) fd_X5_16_8 (v := .ref (P 3)) dX5_isBorne_16 (mh_0 hP) rfl ?_
  refine v_iload_n F (pc := 19) dX5_isBorne_19 rfl ?_
  refine v_iald F (pc := 20) (n := 8) (f := σ 3) (z := r) dX5_isBorne_20 (mh_3 hP) (by omega) (by decide) ?_
  have b_29 : (0 : Int) ≤ (σ 3) r ∧ (σ 3) r ≤ (10000 : Int) := hB 3 r (by omega) (show r < (8 : Int) by omega)
  refine v_icmp_gt F (pc := 21) (a := (m_weighs σ r) + w) (b := (σ 3) r) 64 dX5_isBorne_21 (by decide) (by omega) (by omega) (fun c_30 => ?_) (fun c_30 => ?_)
  · refine v_iconst F (pc := 64) dX5_isBorne_64 ?_
    exact V.to J_2 rfl rfl (by simp only [m_b0, bI, Bool.and_eq_true, decide_eq_true_eq]; split <;> first | rfl | (exfalso; omega))
  · refine v_aload_n F (pc := 24) dX5_isBorne_24 rfl ?_
    refine v_iload F (pc := 25) dX5_isBorne_25 rfl ?_
    refine v_callVp F (pc := 27) (As := [.int (iI ((σ 1) r))]) (rest := []) ci_X5_91 ct_X5_rowWeighs cs_X5_rowWeighs (k_X5_rowWeighs l g hP hB ((σ 1) r) (by omega)) dX5_isBorne_27 (k0 := 8) rfl rfl (mh_0 hP) rfl rfl (Nat.le_of_ble_eq_true rfl) (Nat.le_of_ble_eq_true rfl) (Nat.le_of_ble_eq_true rfl) (Nat.le_of_ble_eq_true rfl) (Nat.le_of_ble_eq_true rfl) ?_ (fun _ _ z => z.elim)
    have rg_31 := m_rowWeighs_rng hB ((σ 1) r)
    refine v_iload_n F (pc := 30) dX5_isBorne_30 rfl ?_
    refine v_iadd F (pc := 31) (a := m_rowWeighs σ ((σ 1) r)) (b := w) dX5_isBorne_31 ?_
    refine v_aload_n F (pc := 32) dX5_isBorne_32 rfl ?_
    refine v_getf F (pc := 33) fd_X5_25_8 (v := .ref (P 7)) dX5_isBorne_33 (mh_0 hP) rfl ?_
    refine v_iload F (pc := 36) dX5_isBorne_36 rfl ?_
    refine v_iald F (pc := 38) (n := 4) (f := σ 7) (z := (σ 1) r) dX5_isBorne_38 (mh_7 hP) (by omega) (by decide) ?_
    have b_32 : (0 : Int) ≤ (σ 7) ((σ 1) r) ∧ (σ 7) ((σ 1) r) ≤ (10000 : Int) := hB 7 ((σ 1) r) (by omega) (show (σ 1) r < (4 : Int) by omega)
    refine v_icmp_gt F (pc := 39) (a := (m_rowWeighs σ ((σ 1) r)) + w) (b := (σ 7) ((σ 1) r)) 64 dX5_isBorne_39 (by decide) (by omega) (by omega) (fun c_33 => ?_) (fun c_33 => ?_)
    · refine v_iconst F (pc := 64) dX5_isBorne_64 ?_
      exact V.to J_2 rfl rfl (by simp only [m_b0, bI, Bool.and_eq_true, decide_eq_true_eq]; split <;> first | rfl | (exfalso; omega))
    · refine v_aload_n F (pc := 42) dX5_isBorne_42 rfl ?_
      refine v_iload F (pc := 43) dX5_isBorne_43 rfl ?_
      refine v_callVp F (pc := 45) (As := [.int (iI ((σ 1) r))]) (rest := []) ci_X5_88 ct_X5_rowHeats cs_X5_rowHeats (k_X5_rowHeats l g hP hB ((σ 1) r) (by omega)) dX5_isBorne_45 (k0 := 8) rfl rfl (mh_0 hP) rfl rfl (Nat.le_of_ble_eq_true rfl) (Nat.le_of_ble_eq_true rfl) (Nat.le_of_ble_eq_true rfl) (Nat.le_of_ble_eq_true rfl) (Nat.le_of_ble_eq_true rfl) ?_ (fun _ _ z => z.elim)
      have rg_34 := m_rowHeats_rng hB ((σ 1) r)
      refine v_iload_n F (pc := 48) dX5_isBorne_48 rfl ?_
      refine v_iadd F (pc := 49) (a := m_rowHeats σ ((σ 1) r)) (b := p) dX5_isBorne_49 ?_
      refine v_aload_n F (pc := 50) dX5_isBorne_50 rfl ?_
      refine v_getf F (pc := 51) fd_X5_22_8 (v := .ref (P 6)) dX5_isBorne_51 (mh_0 hP) rfl ?_
      refine v_iload F (pc := 54) dX5_isBorne_54 rfl ?_
      refine v_iald F (pc := 56) (n := 4) (f := σ 6) (z := (σ 1) r) dX5_isBorne_56 (mh_6 hP) (by omega) (by decide) ?_
      have b_35 : (0 : Int) ≤ (σ 6) ((σ 1) r) ∧ (σ 6) ((σ 1) r) ≤ (10000 : Int) := hB 6 ((σ 1) r) (by omega) (show (σ 1) r < (4 : Int) by omega)
      refine v_icmp_gt F (pc := 57) (a := (m_rowHeats σ ((σ 1) r)) + p) (b := (σ 6) ((σ 1) r)) 64 dX5_isBorne_57 (by decide) (by omega) (by omega) (fun c_36 => ?_) (fun c_36 => ?_)
      · refine v_iconst F (pc := 64) dX5_isBorne_64 ?_
        exact V.to J_2 rfl rfl (by simp only [m_b0, bI, Bool.and_eq_true, decide_eq_true_eq]; split <;> first | rfl | (exfalso; omega))
      · refine v_iconst F (pc := 60) dX5_isBorne_60 ?_
        refine v_goto F (pc := 61) 65 dX5_isBorne_61 (by decide) ?_
        exact V.to J_2 rfl rfl (by simp only [m_b0, bI, Bool.and_eq_true, decide_eq_true_eq]; split <;> first | rfl | (exfalso; omega))
-- X5_slotIn
set_option maxRecDepth 100000 in
set_option maxHeartbeats 8000000 in
theorem k_X5_slotIn (l : Launch) (g : gT) {P : Nat → Nat} {σ : sT} (hP : mok P) (hB : MB σ) (r n p w c : Int) (hr : 0 ≤ r ∧ r < 8) (hn : 0 ≤ n ∧ n ≤ 1000) (hp : 0 ≤ p ∧ p ≤ 100000) (hw : 0 ≤ w ∧ w ≤ 100000) (hc : 0 ≤ c ∧ c ≤ 2) : CM l g yX5_slotIn cX5_slotIn 7 (some .int) ({ frames := 4, cells := 0, slots := 0, locals := 94 }) [.ref (P 0), .int (iI (r)), .int (iI (n)), .int (iI (p)), .int (iI (w)), .int (iI (c))] (mheap g P σ) (pV (some (.int (iI (m_slotIn σ r n p w c)))) (mheap g P σ)) (noX) := by
  refine CM.of (lo := [some (.ref (P 0)), some (.int (iI (r))), some (.int (iI (n))), some (.int (iI (p))), some (.int (iI (w))), some (.int (iI (c))), none]) (by decide) (Nat.le_of_ble_eq_true rfl) (by simp [Value.category]) rfl ?_
  intro pX eX sX mX bX tX cX AX F htab hmn
  have F : Fx pX l sX mX ([.ref (P 0), .int (iI (r)), .int (iI (n)), .int (iI (p)), .int (iI (w)), .int (iI (c))] : List Value).toArray tX cX cX5_slotIn 7 (some .int) RX5 g AX := F
  have bs : (0 : Int) ≤ σ 2 r ∧ σ 2 r ≤ (20 : Int) := hB 2 r hr.1 (show r < (8 : Int) from hr.2)
  refine v_aload_n F (pc := 0) dX5_slotIn_0 rfl ?_
  refine v_iload_n F (pc := 1) dX5_slotIn_1 rfl ?_
  refine v_iload_n F (pc := 2) dX5_slotIn_2 rfl ?_
  refine v_iload F (pc := 3) dX5_slotIn_3 rfl ?_
  refine v_iload F (pc := 5) dX5_slotIn_5 rfl ?_
  refine v_callVp F (pc := 7) (As := [.int (iI (r)), .int (iI (p)), .int (iI (w)), .int (iI (c))]) (rest := []) ci_X5_104 ct_X5_isBorne cs_X5_isBorne (k_X5_isBorne l g hP hB r p w c (by omega) (by omega) (by omega) (by omega)) dX5_slotIn_7 (k0 := 8) rfl rfl (mh_0 hP) rfl rfl (Nat.le_of_ble_eq_true rfl) (Nat.le_of_ble_eq_true rfl) (Nat.le_of_ble_eq_true rfl) (Nat.le_of_ble_eq_true rfl) (Nat.le_of_ble_eq_true rfl) ?_ (fun _ _ z => z.elim)
  refine v_if_eqB F (pc := 10) (b := (m_borne σ r p w c)) 47 dX5_slotIn_10 (by decide) (fun c_1 => ?_) (fun c_1 => ?_)
  · have cb := c_1
    refine v_iconst F (pc := 47) dX5_slotIn_47 ?_
    refine v_iret F (pc := 48) (z := (iI (-1))) dX5_slotIn_48 rfl rfl (Nat.le_of_ble_eq_true rfl) (Nat.le_of_ble_eq_true rfl) ?_
    exact ⟨by rw [show m_slotIn σ r n p w c = -1 from by unfold m_slotIn; first | rw [if_neg (by rw [cb]; decide)] | (rw [if_pos cb]; exact ff_none (fun j a b => hno j a (by omega)))], rfl⟩
  · have cb := c_1
    refine v_iconst F (pc := 13) dX5_slotIn_13 ?_
    refine v_istore F (pc := 14) (lo' := [some (.ref (P 0)), some (.int (iI (r))), some (.int (iI (n))), some (.int (iI (p))), some (.int (iI (w))), some (.int (iI (c))), some (.int (iI (0)))]) dX5_slotIn_14 (Nat.le_of_ble_eq_true rfl) rfl ?_
    have LP16 : ∀ (N_ : Nat) (s : Int), (0 ≤ s) → (s ≤ (σ 2 r)) → (∀ j, 0 ≤ j → j < s → (fun s => m_free σ r s n) j = false) → ((σ 2 r) - s).toNat < N_ → VE pX l eX ({ frames := 4, cells := 0, slots := 0, locals := 94 }) sX mX ([.ref (P 0), .int (iI (r)), .int (iI (n)), .int (iI (p)), .int (iI (w)), .int (iI (c))] : List Value).toArray bX tX cX 7 g AX (mheap g P σ) 0 0 16 [some (.ref (P 0)), some (.int (iI (r))), some (.int (iI (n))), some (.int (iI (p))), some (.int (iI (w))), some (.int (iI (c))), some (.int (iI (s)))] [] (pV (some (.int (iI (m_slotIn σ r n p w c)))) (mheap g P σ)) (noX) 0 0 := by
      intro N_
      induction N_ with
      | zero => intro s _ _ _ hm_; exact absurd hm_ (Nat.not_lt_zero _)
      | succ N_ ih =>
        intro s hs0 hs1 hno hm_
        refine v_iload F (pc := 16) dX5_slotIn_16 rfl ?_
        refine v_aload_n F (pc := 18) dX5_slotIn_18 rfl ?_
        refine v_getf F (pc := 19) fd_X5_13_8 (v := .ref (P 2)) dX5_slotIn_19 (mh_0 hP) rfl ?_
        refine v_iload_n F (pc := 22) dX5_slotIn_22 rfl ?_
        refine v_iald F (pc := 23) (n := 8) (f := σ 2) (z := r) dX5_slotIn_23 (mh_2 hP) (by omega) (by decide) ?_
        have b_2 : (0 : Int) ≤ (σ 2) r ∧ (σ 2) r ≤ (20 : Int) := hB 2 r (by omega) (show r < (8 : Int) by omega)
        refine v_icmp_ge F (pc := 24) (a := s) (b := (σ 2) r) 47 dX5_slotIn_24 (by decide) (by omega) (by omega) (fun c_3 => ?_) (fun c_3 => ?_)
        · refine v_iconst F (pc := 47) dX5_slotIn_47 ?_
          refine v_iret F (pc := 48) (z := (iI (-1))) dX5_slotIn_48 rfl rfl (Nat.le_of_ble_eq_true rfl) (Nat.le_of_ble_eq_true rfl) ?_
          exact ⟨by rw [show m_slotIn σ r n p w c = -1 from by unfold m_slotIn; first | rw [if_neg (by rw [cb]; decide)] | (rw [if_pos cb]; exact ff_none (fun j a b => hno j a (by omega)))], rfl⟩
        · refine v_aload_n F (pc := 27) dX5_slotIn_27 rfl ?_
          refine v_iload_n F (pc := 28) dX5_slotIn_28 rfl ?_
          refine v_iload F (pc := 29) dX5_slotIn_29 rfl ?_
          refine v_iload_n F (pc := 31) dX5_slotIn_31 rfl ?_
          refine v_callVp F (pc := 32) (As := [.int (iI (r)), .int (iI (s)), .int (iI (n))]) (rest := []) ci_X5_108 ct_X5_isFree cs_X5_isFree (k_X5_isFree l g hP hB r s n (by omega) (by omega) (by omega)) dX5_slotIn_32 (k0 := 8) rfl rfl (mh_0 hP) rfl rfl (Nat.le_of_ble_eq_true rfl) (Nat.le_of_ble_eq_true rfl) (Nat.le_of_ble_eq_true rfl) (Nat.le_of_ble_eq_true rfl) (Nat.le_of_ble_eq_true rfl) ?_ (fun _ _ z => z.elim)
          refine v_if_eqB F (pc := 35) (b := (m_free σ r s n)) 41 dX5_slotIn_35 (by decide) (fun c_4 => ?_) (fun c_4 => ?_)
          · refine v_iinc F (pc := 41) (lo' := [some (.ref (P 0)), some (.int (iI (r))), some (.int (iI (n))), some (.int (iI (p))), some (.int (iI (w))), some (.int (iI (c))), some (.int (iI (s + 1)))]) dX5_slotIn_41 rfl (Nat.le_of_ble_eq_true rfl) rfl ?_
            refine v_goto F (pc := 44) 16 dX5_slotIn_44 (by decide) ?_
            exact ih (s + 1) (by omega) (by omega) (no_s hno (show (fun s => m_free σ r s n) s = false by simp only [Bool.and_eq_false_iff, Bool.or_eq_false_iff, decide_eq_false_iff_not]; first | omega | simp_all)) (by omega)
          · refine v_iload F (pc := 38) dX5_slotIn_38 rfl ?_
            refine v_iret F (pc := 40) (z := (iI (s))) dX5_slotIn_40 rfl rfl (Nat.le_of_ble_eq_true rfl) (Nat.le_of_ble_eq_true rfl) ?_
            exact ⟨by rw [show m_slotIn σ r n p w c = s from by unfold m_slotIn; rw [if_pos cb]; exact ff_at hs0 (by omega) (by assumption) hno], rfl⟩
    exact LP16 _ 0 (Int.le_refl 0) (by omega) no_0 (Nat.lt_succ_self _)
-- X5_puts
set_option maxRecDepth 100000 in
set_option maxHeartbeats 8000000 in
theorem k_X5_puts (l : Launch) (g : gT) {P : Nat → Nat} {σ : sT} (hP : mok P) (hB : MB σ) (k : Int) (hk : 0 ≤ k ∧ k < 60) : CM l g yX5_puts cX5_puts 4 (some .int) ({ frames := 5, cells := 0, slots := 0, locals := 120 }) [.ref (P 0), .int (iI (k))] (mheap g P σ) (pV (some (.int (iI (m_pr σ k)))) (mheap g P (m_put σ k))) (noX) := by
  refine CM.of (lo := [some (.ref (P 0)), some (.int (iI (k))), none, none]) (by decide) (Nat.le_of_ble_eq_true rfl) (by simp [Value.category]) rfl ?_
  intro pX eX sX mX bX tX cX AX F htab hmn
  have F : Fx pX l sX mX ([.ref (P 0), .int (iI (k))] : List Value).toArray tX cX cX5_puts 4 (some .int) RX5 g AX := F
  have br : (0 : Int) ≤ σ 5 0 ∧ σ 5 0 ≤ (8 : Int) := mb_nr hB
  refine v_iconst F (pc := 0) dX5_puts_0 ?_
  refine v_istore_n F (pc := 1) (lo' := [some (.ref (P 0)), some (.int (iI (k))), some (.int (iI (0))), none]) dX5_puts_1 (Nat.le_of_ble_eq_true rfl) rfl ?_
  have LP2 : ∀ (N_ : Nat) (r : Int), (0 ≤ r) → (r ≤ (σ 5 0)) → (∀ j, 0 ≤ j → j < r → (fun r => decide (m_slotIn σ r (σ 11 k) (σ 12 k) (σ 13 k) (σ 14 k) ≠ -1)) j = false) → ((σ 5 0) - r).toNat < N_ → VE pX l eX ({ frames := 5, cells := 0, slots := 0, locals := 120 }) sX mX ([.ref (P 0), .int (iI (k))] : List Value).toArray bX tX cX 4 g AX (mheap g P σ) 0 0 2 [some (.ref (P 0)), some (.int (iI (k))), some (.int (iI (r))), none] [] (pV (some (.int (iI (m_pr σ k)))) (mheap g P (m_put σ k))) (noX) 0 0 := by
    intro N_
    induction N_ with
    | zero => intro r _ _ _ hm_; exact absurd hm_ (Nat.not_lt_zero _)
    | succ N_ ih =>
      intro r hr0 hr1 hno hm_
      refine v_iload_n F (pc := 2) dX5_puts_2 rfl ?_
      refine v_aload_n F (pc := 3) dX5_puts_3 rfl ?_
      refine v_getf F (pc := 4) fd_X5_66_8 (v := .int (iI (σ 5 0))) dX5_puts_4 (mh_0 hP) rfl ?_
      have b_1 : (0 : Int) ≤ σ 5 0 ∧ σ 5 0 ≤ (8 : Int) := hB 5 0 (by decide) (by decide)
      refine v_icmp_ge F (pc := 7) (a := r) (b := σ 5 0) 67 dX5_puts_7 (by decide) (by omega) (by omega) (fun c_2 => ?_) (fun c_2 => ?_)
      · refine v_iconst F (pc := 67) dX5_puts_67 ?_
        refine v_iret F (pc := 68) (z := (iI (-1))) dX5_puts_68 rfl rfl (Nat.le_of_ble_eq_true rfl) (Nat.le_of_ble_eq_true rfl) ?_
        have e_ : m_pr σ k = -1 := ff_none (fun j a b => hno j a (by omega))
        exact ⟨by rw [e_], by rw [m_put_none e_]⟩
      · refine v_aload_n F (pc := 10) dX5_puts_10 rfl ?_
        refine v_iload_n F (pc := 11) dX5_puts_11 rfl ?_
        refine v_aload_n F (pc := 12) dX5_puts_12 rfl ?_
        refine v_getf F (pc := 13) fd_X5_38_8 (v := .ref (P 11)) dX5_puts_13 (mh_0 hP) rfl ?_
        refine v_iload_n F (pc := 16) dX5_puts_16 rfl ?_
        refine v_iald F (pc := 17) (n := 60) (f := σ 11) (z := k) dX5_puts_17 (mh_11 hP) (by omega) (by decide) ?_
        have b_3 : (0 : Int) ≤ (σ 11) k ∧ (σ 11) k ≤ (6 : Int) := hB 11 k (by omega) (show k < (60 : Int) by omega)
        refine v_aload_n F (pc := 18) dX5_puts_18 rfl ?_
        refine v_getf F (pc := 19) fd_X5_41_8 (v := .ref (P 12)) dX5_puts_19 (mh_0 hP) rfl ?_
        refine v_iload_n F (pc := 22) dX5_puts_22 rfl ?_
        refine v_iald F (pc := 23) (n := 60) (f := σ 12) (z := k) dX5_puts_23 (mh_12 hP) (by omega) (by decide) ?_
        have b_4 : (0 : Int) ≤ (σ 12) k ∧ (σ 12) k ≤ (2000 : Int) := hB 12 k (by omega) (show k < (60 : Int) by omega)
        refine v_aload_n F (pc := 24) dX5_puts_24 rfl ?_
        refine v_getf F (pc := 25) fd_X5_44_8 (v := .ref (P 13)) dX5_puts_25 (mh_0 hP) rfl ?_
        refine v_iload_n F (pc := 28) dX5_puts_28 rfl ?_
        refine v_iald F (pc := 29) (n := 60) (f := σ 13) (z := k) dX5_puts_29 (mh_13 hP) (by omega) (by decide) ?_
        have b_5 : (0 : Int) ≤ (σ 13) k ∧ (σ 13) k ≤ (1000 : Int) := hB 13 k (by omega) (show k < (60 : Int) by omega)
        refine v_aload_n F (pc := 30) dX5_puts_30 rfl ?_
        refine v_getf F (pc := 31) fd_X5_47_8 (v := .ref (P 14)) dX5_puts_31 (mh_0 hP) rfl ?_
        refine v_iload_n F (pc := 34) dX5_puts_34 rfl ?_
        refine v_iald F (pc := 35) (n := 60) (f := σ 14) (z := k) dX5_puts_35 (mh_14 hP) (by omega) (by decide) ?_
        have b_6 : (0 : Int) ≤ (σ 14) k ∧ (σ 14) k ≤ (2 : Int) := hB 14 k (by omega) (show k < (60 : Int) by omega)
        refine v_callVp F (pc := 36) (As := [.int (iI (r)), .int (iI ((σ 11) k)), .int (iI ((σ 12) k)), .int (iI ((σ 13) k)), .int (iI ((σ 14) k))]) (rest := []) ci_X5_111 ct_X5_slotIn cs_X5_slotIn (k_X5_slotIn l g hP hB r ((σ 11) k) ((σ 12) k) ((σ 13) k) ((σ 14) k) (by omega) (by omega) (by omega) (by omega) (by omega)) dX5_puts_36 (k0 := 8) rfl rfl (mh_0 hP) rfl rfl (Nat.le_of_ble_eq_true rfl) (Nat.le_of_ble_eq_true rfl) (Nat.le_of_ble_eq_true rfl) (Nat.le_of_ble_eq_true rfl) (Nat.le_of_ble_eq_true rfl) ?_ (fun _ _ z => z.elim)
        have rg_7 := m_slotIn_rng hB (r := r) (by omega) ((σ 11) k) ((σ 12) k) ((σ 13) k) ((σ 14) k)
        refine v_istore_n F (pc := 39) (lo' := [some (.ref (P 0)), some (.int (iI (k))), some (.int (iI (r))), some (.int (iI (m_slotIn σ r ((σ 11) k) ((σ 12) k) ((σ 13) k) ((σ 14) k))))]) dX5_puts_39 (Nat.le_of_ble_eq_true rfl) rfl ?_
        refine v_iload_n F (pc := 40) dX5_puts_40 rfl ?_
        refine v_iconst F (pc := 41) dX5_puts_41 ?_
        refine v_icmp_eq F (pc := 42) (a := m_slotIn σ r ((σ 11) k) ((σ 12) k) ((σ 13) k) ((σ 14) k)) (b := -1) 61 dX5_puts_42 (by decide) (by omega) (by omega) (fun c_8 => ?_) (fun c_8 => ?_)
        · refine v_iinc F (pc := 61) (lo' := [some (.ref (P 0)), some (.int (iI (k))), some (.int (iI (r + 1))), some (.int (iI (m_slotIn σ r ((σ 11) k) ((σ 12) k) ((σ 13) k) ((σ 14) k))))]) dX5_puts_61 rfl (Nat.le_of_ble_eq_true rfl) rfl ?_
          refine v_goto F (pc := 64) 2 dX5_puts_64 (by decide) ?_
          exact V.fg (ih (r + 1) (by omega) (by omega) (no_s hno (show (fun r => decide (m_slotIn σ r (σ 11 k) (σ 12 k) (σ 13 k) (σ 14 k) ≠ -1)) r = false by simp only [Bool.and_eq_false_iff, Bool.or_eq_false_iff, decide_eq_false_iff_not]; first | omega | simp_all)) (by omega)) ⟨rfl, ⟨rfl, ⟨rfl, trivial⟩⟩⟩
        · refine v_aload_n F (pc := 45) dX5_puts_45 rfl ?_
          refine v_getf F (pc := 46) fd_X5_50_8 (v := .ref (P 15)) dX5_puts_46 (mh_0 hP) rfl ?_
          refine v_iload_n F (pc := 49) dX5_puts_49 rfl ?_
          refine v_iload_n F (pc := 50) dX5_puts_50 rfl ?_
          refine v_iast F (pc := 51) (n := 60) (f := σ 15) (z := k) (x := r) dX5_puts_51 (mh_15 hP) (by omega) (by decide)  (h' := mheap g P (su σ 15 k r)) (mu_15 hP k r) ?_
          have hB_9 : MB (su σ 15 k r) := mb_su hB (show (-1 : Int) ≤ r ∧ r ≤ (7 : Int) from by omega)
          refine v_aload_n F (pc := 52) dX5_puts_52 rfl ?_
          refine v_getf F (pc := 53) fd_X5_53_8 (v := .ref (P 16)) dX5_puts_53 (mh_0 hP) rfl ?_
          refine v_iload_n F (pc := 56) dX5_puts_56 rfl ?_
          refine v_iload_n F (pc := 57) dX5_puts_57 rfl ?_
          refine v_iast F (pc := 58) (n := 60) (f := σ 16) (z := k) (x := m_slotIn σ r ((σ 11) k) ((σ 12) k) ((σ 13) k) ((σ 14) k)) dX5_puts_58 (mh_16 hP) (by omega) (by decide)  (h' := mheap g P (su (su σ 15 k r) 16 k (m_slotIn σ r ((σ 11) k) ((σ 12) k) ((σ 13) k) ((σ 14) k)))) (mu_16 hP k (m_slotIn σ r ((σ 11) k) ((σ 12) k) ((σ 13) k) ((σ 14) k))) ?_
          have hB_10 : MB (su (su σ 15 k r) 16 k (m_slotIn σ r ((σ 11) k) ((σ 12) k) ((σ 13) k) ((σ 14) k))) := mb_su hB_9 (show (0 : Int) ≤ m_slotIn σ r ((σ 11) k) ((σ 12) k) ((σ 13) k) ((σ 14) k) ∧ m_slotIn σ r ((σ 11) k) ((σ 12) k) ((σ 13) k) ((σ 14) k) ≤ (19 : Int) from by omega)
          refine v_iload_n F (pc := 59) dX5_puts_59 rfl ?_
          refine v_iret F (pc := 60) (z := (iI (r))) dX5_puts_60 rfl rfl (Nat.le_of_ble_eq_true rfl) (Nat.le_of_ble_eq_true rfl) ?_
          have e_ : m_pr σ k = r := ff_at hr0 (by omega) (decide_eq_true (p := m_slotIn σ r (σ 11 k) (σ 12 k) (σ 13 k) (σ 14 k) ≠ -1) (by assumption)) hno
          exact ⟨by rw [e_], by rw [m_put_some (by omega), e_]⟩
  exact V.fg (LP2 _ 0 (Int.le_refl 0) (by omega) no_0 (Nat.lt_succ_self _)) ⟨rfl, ⟨rfl, ⟨rfl, trivial⟩⟩⟩
-- X5_nextToPack
set_option maxRecDepth 100000 in
set_option maxHeartbeats 8000000 in
theorem k_X5_nextToPack (l : Launch) (g : gT) {P : Nat → Nat} {σ : sT} (hP : mok P) (hB : MB σ) : CM l g yX5_nextToPack cX5_nextToPack 3 (some .int) ({ frames := 2, cells := 0, slots := 0, locals := 42 }) [.ref (P 0)] (mheap g P σ) (pV (some (.int (iI (m_nx σ)))) (mheap g P σ)) (noX) := by
  refine CM.of (lo := [some (.ref (P 0)), none, none]) (by decide) (Nat.le_of_ble_eq_true rfl) (by simp [Value.category]) rfl ?_
  intro pX eX sX mX bX tX cX AX F htab hmn
  have F : Fx pX l sX mX ([.ref (P 0)] : List Value).toArray tX cX cX5_nextToPack 3 (some .int) RX5 g AX := F
  have bm : (0 : Int) ≤ σ 17 0 ∧ σ 17 0 ≤ (60 : Int) := mb_nm hB
  refine v_iconst F (pc := 0) dX5_nextToPack_0 ?_
  refine v_istore_n F (pc := 1) (lo' := [some (.ref (P 0)), some (.int (iI (-1))), none]) dX5_nextToPack_1 (Nat.le_of_ble_eq_true rfl) rfl ?_
  refine v_iconst F (pc := 2) dX5_nextToPack_2 ?_
  refine v_istore_n F (pc := 3) (lo' := [some (.ref (P 0)), some (.int (iI (-1))), some (.int (iI (0)))]) dX5_nextToPack_3 (Nat.le_of_ble_eq_true rfl) rfl ?_
  have LP4 : ∀ (N_ : Nat) (k : Int), (0 ≤ k) → (k ≤ (σ 17 0)) → ((σ 17 0) - k).toNat < N_ → VE pX l eX ({ frames := 2, cells := 0, slots := 0, locals := 42 }) sX mX ([.ref (P 0)] : List Value).toArray bX tX cX 3 g AX (mheap g P σ) 0 0 4 [some (.ref (P 0)), some (.int (iI (m_best σ k))), some (.int (iI (k)))] [] (pV (some (.int (iI (m_nx σ)))) (mheap g P σ)) (noX) 0 0 := by
    intro N_
    induction N_ with
    | zero => intro k _ _ hm_; exact absurd hm_ (Nat.not_lt_zero _)
    | succ N_ ih =>
      intro k hk0 hk1 hm_
      have rb := m_best_rng σ hk0
      refine v_iload_n F (pc := 4) dX5_nextToPack_4 rfl ?_
      refine v_aload_n F (pc := 5) dX5_nextToPack_5 rfl ?_
      refine v_getf F (pc := 6) fd_X5_73_8 (v := .int (iI (σ 17 0))) dX5_nextToPack_6 (mh_0 hP) rfl ?_
      have b_1 : (0 : Int) ≤ σ 17 0 ∧ σ 17 0 ≤ (60 : Int) := hB 17 0 (by decide) (by decide)
      refine v_icmp_ge F (pc := 9) (a := k) (b := σ 17 0) 48 dX5_nextToPack_9 (by decide) (by omega) (by omega) (fun c_2 => ?_) (fun c_2 => ?_)
      · refine v_iload_n F (pc := 48) dX5_nextToPack_48 rfl ?_
        refine v_iret F (pc := 49) (z := (iI (m_best σ k))) dX5_nextToPack_49 rfl rfl (Nat.le_of_ble_eq_true rfl) (Nat.le_of_ble_eq_true rfl) ?_
        exact ⟨by rw [show m_nx σ = m_best σ k from by rw [show k = σ 17 0 by omega]; rfl], rfl⟩
      · refine v_aload_n F (pc := 12) dX5_nextToPack_12 rfl ?_
        refine v_getf F (pc := 13) fd_X5_50_8 (v := .ref (P 15)) dX5_nextToPack_13 (mh_0 hP) rfl ?_
        refine v_iload_n F (pc := 16) dX5_nextToPack_16 rfl ?_
        refine v_iald F (pc := 17) (n := 60) (f := σ 15) (z := k) dX5_nextToPack_17 (mh_15 hP) (by omega) (by decide) ?_
        have b_3 : (-1 : Int) ≤ (σ 15) k ∧ (σ 15) k ≤ (7 : Int) := hB 15 k (by omega) (show k < (60 : Int) by omega)
        refine v_iconst F (pc := 18) dX5_nextToPack_18 ?_
        refine v_icmp_ne F (pc := 19) (a := (σ 15) k) (b := -1) 40 dX5_nextToPack_19 (by decide) (by omega) (by omega) (fun c_4 => ?_) (fun c_4 => ?_)
        · refine v_iload_n F (pc := 40) dX5_nextToPack_40 rfl ?_
          refine v_istore_n F (pc := 41) (lo' := [some (.ref (P 0)), some (.int (iI (m_best σ k))), some (.int (iI (k)))]) dX5_nextToPack_41 (Nat.le_of_ble_eq_true rfl) rfl ?_
          refine v_iinc F (pc := 42) (lo' := [some (.ref (P 0)), some (.int (iI (m_best σ k))), some (.int (iI (k + 1)))]) dX5_nextToPack_42 rfl (Nat.le_of_ble_eq_true rfl) rfl ?_
          refine v_goto F (pc := 45) 4 dX5_nextToPack_45 (by decide) ?_
          have e_ : m_best σ (k + 1) = m_best σ k := by rw [m_best_s σ hk0]; split <;> first | rfl | omega | simp_all
          have ih2 := ih (k + 1) (by omega) (by omega) (by omega)
          rw [e_] at ih2
          exact ih2
        · refine v_iload_n F (pc := 22) dX5_nextToPack_22 rfl ?_
          refine v_iconst F (pc := 23) dX5_nextToPack_23 ?_
          refine v_icmp_eq F (pc := 24) (a := m_best σ k) (b := -1) 36 dX5_nextToPack_24 (by decide) (by omega) (by omega) (fun c_5 => ?_) (fun c_5 => ?_)
          · refine v_iload_n F (pc := 36) dX5_nextToPack_36 rfl ?_
            refine v_goto F (pc := 37) 41 dX5_nextToPack_37 (by decide) ?_
            refine v_istore_n F (pc := 41) (lo' := [some (.ref (P 0)), some (.int (iI (k))), some (.int (iI (k)))]) dX5_nextToPack_41 (Nat.le_of_ble_eq_true rfl) rfl ?_
            refine v_iinc F (pc := 42) (lo' := [some (.ref (P 0)), some (.int (iI (k))), some (.int (iI (k + 1)))]) dX5_nextToPack_42 rfl (Nat.le_of_ble_eq_true rfl) rfl ?_
            refine v_goto F (pc := 45) 4 dX5_nextToPack_45 (by decide) ?_
            have e_ : m_best σ (k + 1) = k := by rw [m_best_s σ hk0]; split <;> first | rfl | omega | simp_all
            have ih2 := ih (k + 1) (by omega) (by omega) (by omega)
            rw [e_] at ih2
            exact ih2
          · refine v_aload_n F (pc := 27) dX5_nextToPack_27 rfl ?_
            refine v_iload_n F (pc := 28) dX5_nextToPack_28 rfl ?_
            refine v_iload_n F (pc := 29) dX5_nextToPack_29 rfl ?_
            refine v_callVp F (pc := 30) (As := [.int (iI (k)), .int (iI (m_best σ k))]) (rest := []) ci_X5_127 ct_X5_isAhead cs_X5_isAhead (k_X5_isAhead l g hP hB k (m_best σ k) (by omega) (by omega)) dX5_nextToPack_30 (k0 := 8) rfl rfl (mh_0 hP) rfl rfl (Nat.le_of_ble_eq_true rfl) (Nat.le_of_ble_eq_true rfl) (Nat.le_of_ble_eq_true rfl) (Nat.le_of_ble_eq_true rfl) (Nat.le_of_ble_eq_true rfl) ?_ (fun _ _ z => z.elim)
            refine v_if_eqB F (pc := 33) (b := (m_ahead σ k (m_best σ k))) 40 dX5_nextToPack_33 (by decide) (fun c_6 => ?_) (fun c_6 => ?_)
            · refine v_iload_n F (pc := 40) dX5_nextToPack_40 rfl ?_
              refine v_istore_n F (pc := 41) (lo' := [some (.ref (P 0)), some (.int (iI (m_best σ k))), some (.int (iI (k)))]) dX5_nextToPack_41 (Nat.le_of_ble_eq_true rfl) rfl ?_
              refine v_iinc F (pc := 42) (lo' := [some (.ref (P 0)), some (.int (iI (m_best σ k))), some (.int (iI (k + 1)))]) dX5_nextToPack_42 rfl (Nat.le_of_ble_eq_true rfl) rfl ?_
              refine v_goto F (pc := 45) 4 dX5_nextToPack_45 (by decide) ?_
              have e_ : m_best σ (k + 1) = m_best σ k := by rw [m_best_s σ hk0]; split <;> first | rfl | omega | simp_all
              have ih2 := ih (k + 1) (by omega) (by omega) (by omega)
              rw [e_] at ih2
              exact ih2
            · refine v_iload_n F (pc := 36) dX5_nextToPack_36 rfl ?_
              refine v_goto F (pc := 37) 41 dX5_nextToPack_37 (by decide) ?_
              refine v_istore_n F (pc := 41) (lo' := [some (.ref (P 0)), some (.int (iI (k))), some (.int (iI (k)))]) dX5_nextToPack_41 (Nat.le_of_ble_eq_true rfl) rfl ?_
              refine v_iinc F (pc := 42) (lo' := [some (.ref (P 0)), some (.int (iI (k))), some (.int (iI (k + 1)))]) dX5_nextToPack_42 rfl (Nat.le_of_ble_eq_true rfl) rfl ?_
              refine v_goto F (pc := 45) 4 dX5_nextToPack_45 (by decide) ?_
              have e_ : m_best σ (k + 1) = k := by rw [m_best_s σ hk0]; split <;> first | rfl | omega | simp_all
              have ih2 := ih (k + 1) (by omega) (by omega) (by omega)
              rw [e_] at ih2
              exact ih2
  exact LP4 _ 0 (Int.le_refl 0) (by omega) (Nat.lt_succ_self _)
-- X5_roomIn
set_option maxRecDepth 100000 in
set_option maxHeartbeats 8000000 in
theorem k_X5_roomIn (l : Launch) (g : gT) {P : Nat → Nat} {σ : sT} (hP : mok P) (hB : MB σ) (r n p w c : Int) (hr : 0 ≤ r ∧ r < 8) (hn : 0 ≤ n ∧ n ≤ 1000) (hp : 0 ≤ p ∧ p ≤ 2000) (hw : 0 ≤ w ∧ w ≤ 2000) (hc : 0 ≤ c ∧ c ≤ 2) (hL : m_weighs σ r ≤ σ 3 r ∧ m_worst σ r 0 ≤ σ 4 r ∧ m_worst σ r 1 ≤ σ 4 r) : CM l g yX5_roomIn cX5_roomIn 9 (some .int) ({ frames := 3, cells := 0, slots := 0, locals := 66 }) [.ref (P 0), .int (iI (r)), .int (iI (n)), .int (iI (p)), .int (iI (w)), .int (iI (c))] (mheap g P σ) (pV (some (.int (iI (m_roomIn σ r n p w c)))) (mheap g P σ)) (noX) := by
  refine CM.of (lo := [some (.ref (P 0)), some (.int (iI (r))), some (.int (iI (n))), some (.int (iI (p))), some (.int (iI (w))), some (.int (iI (c))), none, none, none]) (by decide) (Nat.le_of_ble_eq_true rfl) (by simp [Value.category]) rfl ?_
  intro pX eX sX mX bX tX cX AX F htab hmn
  have F : Fx pX l sX mX ([.ref (P 0), .int (iI (r)), .int (iI (n)), .int (iI (p)), .int (iI (w)), .int (iI (c))] : List Value).toArray tX cX cX5_roomIn 9 (some .int) RX5 g AX := F
  have bs : (0 : Int) ≤ σ 2 r ∧ σ 2 r ≤ (20 : Int) := hB 2 r hr.1 (show r < (8 : Int) from hr.2)
  refine v_iconst F (pc := 0) dX5_roomIn_0 ?_
  refine v_istore F (pc := 1) (lo' := [some (.ref (P 0)), some (.int (iI (r))), some (.int (iI (n))), some (.int (iI (p))), some (.int (iI (w))), some (.int (iI (c))), some (.int (iI (0))), none, none]) dX5_roomIn_1 (Nat.le_of_ble_eq_true rfl) rfl ?_
  refine v_iconst F (pc := 3) dX5_roomIn_3 ?_
  refine v_istore F (pc := 4) (lo' := [some (.ref (P 0)), some (.int (iI (r))), some (.int (iI (n))), some (.int (iI (p))), some (.int (iI (w))), some (.int (iI (c))), some (.int (iI (0))), some (.int (iI (0))), none]) dX5_roomIn_4 (Nat.le_of_ble_eq_true rfl) rfl ?_
  refine v_iconst F (pc := 6) dX5_roomIn_6 ?_
  refine v_istore F (pc := 7) (lo' := [some (.ref (P 0)), some (.int (iI (r))), some (.int (iI (n))), some (.int (iI (p))), some (.int (iI (w))), some (.int (iI (c))), some (.int (iI (0))), some (.int (iI (0))), some (.int (iI (0)))]) dX5_roomIn_7 (Nat.le_of_ble_eq_true rfl) rfl ?_
  have LP9 : ∀ (N_ : Nat) (s : Int), (0 ≤ s) → (s ≤ (σ 2 r)) → ((σ 2 r) - s).toNat < N_ → VE pX l eX ({ frames := 3, cells := 0, slots := 0, locals := 66 }) sX mX ([.ref (P 0), .int (iI (r)), .int (iI (n)), .int (iI (p)), .int (iI (w)), .int (iI (c))] : List Value).toArray bX tX cX 9 g AX (mheap g P σ) 0 0 9 [some (.ref (P 0)), some (.int (iI (r))), some (.int (iI (n))), some (.int (iI (p))), some (.int (iI (w))), some (.int (iI (c))), some (.int (iI ((m_run σ r n s).1))), some (.int (iI ((m_run σ r n s).2))), some (.int (iI (s)))] [] (pV (some (.int (iI (m_roomIn σ r n p w c)))) (mheap g P σ)) (noX) 0 0 := by
    intro N_
    induction N_ with
    | zero => intro s _ _ hm_; exact absurd hm_ (Nat.not_lt_zero _)
    | succ N_ ih =>
      intro s hs0 hs1 hm_
      have rb := m_run_rng σ r n hs0
      refine v_iload F (pc := 9) dX5_roomIn_9 rfl ?_
      refine v_aload_n F (pc := 11) dX5_roomIn_11 rfl ?_
      refine v_getf F (pc := 12) fd_X5_13_8 (v := .ref (P 2)) dX5_roomIn_12 (mh_0 hP) rfl ?_
      refine v_iload_n F (pc := 15) dX5_roomIn_15 rfl ?_
      refine v_iald F (pc := 16) (n := 8) (f := σ 2) (z := r) dX5_roomIn_16 (mh_2 hP) (by omega) (by decide) ?_
      have b_1 : (0 : Int) ≤ (σ 2) r ∧ (σ 2) r ≤ (20 : Int) := hB 2 r (by omega) (show r < (8 : Int) by omega)
      refine v_icmp_ge F (pc := 17) (a := s) (b := (σ 2) r) 59 dX5_roomIn_17 (by decide) (by omega) (by omega) (fun c_2 => ?_) (fun c_2 => ?_)
      · have ex : m_run σ r n s = m_run σ r n (σ 2 r) := by rw [show s = σ 2 r by omega]
        rw [ex]
        have rb2 := m_run_rng σ r n bs.1
        refine v_iload F (pc := 59) dX5_roomIn_59 rfl ?_
        refine v_aload_n F (pc := 61) dX5_roomIn_61 rfl ?_
        refine v_getf F (pc := 62) fd_X5_16_8 (v := .ref (P 3)) dX5_roomIn_62 (mh_0 hP) rfl ?_
        refine v_iload_n F (pc := 65) dX5_roomIn_65 rfl ?_
        refine v_iald F (pc := 66) (n := 8) (f := σ 3) (z := r) dX5_roomIn_66 (mh_3 hP) (by omega) (by decide) ?_
        have b_3 : (0 : Int) ≤ (σ 3) r ∧ (σ 3) r ≤ (10000 : Int) := hB 3 r (by omega) (show r < (8 : Int) by omega)
        refine v_aload_n F (pc := 67) dX5_roomIn_67 rfl ?_
        refine v_iload_n F (pc := 68) dX5_roomIn_68 rfl ?_
        refine v_callVp F (pc := 69) (As := [.int (iI (r))]) (rest := [.int (iI ((σ 3) r)), .int (iI ((m_run σ r n (σ 2 r)).1))]) ci_X5_80 ct_X5_weighs cs_X5_weighs (k_X5_weighs l g hP hB r (by omega)) dX5_roomIn_69 (k0 := 8) rfl rfl (mh_0 hP) rfl rfl (Nat.le_of_ble_eq_true rfl) (Nat.le_of_ble_eq_true rfl) (Nat.le_of_ble_eq_true rfl) (Nat.le_of_ble_eq_true rfl) (Nat.le_of_ble_eq_true rfl) ?_ (fun _ _ z => z.elim)
        have rg_4 := m_weighs_rng hB r
        refine v_isub F (pc := 72) (a := (σ 3) r) (b := m_weighs σ r) dX5_roomIn_72 ?_
        refine v_iload F (pc := 73) dX5_roomIn_73 rfl ?_
        refine v_callSp F (pc := 75) (As := [.int (iI ((m_run σ r n (σ 2 r)).1)), .int (iI (((σ 3) r) - (m_weighs σ r))), .int (iI (w))]) (rest := []) ci_X5_143 ct_X5_within (k_X5_within l g ((m_run σ r n (σ 2 r)).1) (((σ 3) r) - (m_weighs σ r)) w (by omega) (by omega) (by omega) (mul_rng (by omega) (by omega))) dX5_roomIn_75 rfl rfl (Nat.le_of_ble_eq_true rfl) (Nat.le_of_ble_eq_true rfl) (Nat.le_of_ble_eq_true rfl) (Nat.le_of_ble_eq_true rfl) (Nat.le_of_ble_eq_true rfl) ?_ (fun _ _ z => z.elim)
        have rg_5 := m_wi_rng (m := (m_run σ r n (σ 2 r)).1) (q := ((σ 3) r) - (m_weighs σ r)) (u := w) (by omega) (by omega) (by omega)
        refine v_istore F (pc := 78) (lo' := [some (.ref (P 0)), some (.int (iI (r))), some (.int (iI (n))), some (.int (iI (p))), some (.int (iI (w))), some (.int (iI (c))), some (.int (iI (m_wi ((m_run σ r n (σ 2 r)).1) (((σ 3) r) - (m_weighs σ r)) w))), some (.int (iI ((m_run σ r n (σ 2 r)).2))), some (.int (iI (s)))]) dX5_roomIn_78 (Nat.le_of_ble_eq_true rfl) rfl ?_
        refine v_iconst F (pc := 80) dX5_roomIn_80 ?_
        refine v_istore F (pc := 81) (lo' := [some (.ref (P 0)), some (.int (iI (r))), some (.int (iI (n))), some (.int (iI (p))), some (.int (iI (w))), some (.int (iI (c))), some (.int (iI (m_wi ((m_run σ r n (σ 2 r)).1) (((σ 3) r) - (m_weighs σ r)) w))), some (.int (iI ((m_run σ r n (σ 2 r)).2))), some (.int (iI (0)))]) dX5_roomIn_81 (Nat.le_of_ble_eq_true rfl) rfl ?_
        refine v_iload F (pc := 83) dX5_roomIn_83 rfl ?_
        refine v_iconst F (pc := 85) dX5_roomIn_85 ?_
        refine v_icmp_ge F (pc := 86) (a := 0) (b := 2) 132 dX5_roomIn_86 (by decide) (by omega) (by omega) (fun c_6 => ?_) (fun c_6 => ?_)
        · exact absurd c_6 (by decide)
        · have J_7 : VE pX l eX ({ frames := 3, cells := 0, slots := 0, locals := 66 }) sX mX ([.ref (P 0), .int (iI (r)), .int (iI (n)), .int (iI (p)), .int (iI (w)), .int (iI (c))] : List Value).toArray bX tX cX 9 g AX (mheap g P σ) 0 0 124 [some (.ref (P 0)), some (.int (iI (r))), some (.int (iI (n))), some (.int (iI (p))), some (.int (iI (w))), some (.int (iI (c))), some (.int (iI (m_wi ((m_run σ r n (σ 2 r)).1) (((σ 3) r) - (m_weighs σ r)) w))), some (.int (iI ((m_run σ r n (σ 2 r)).2))), some (.int (iI (0)))] [.int (iI (m_rf σ r p c 0 (m_wi ((m_run σ r n (σ 2 r)).1) (((σ 3) r) - (m_weighs σ r)) w)))] (pV (some (.int (iI (m_roomIn σ r n p w c)))) (mheap g P σ)) (noX) 0 0 := by
            have rf_8 := m_rf_rng σ r p c 0 (a := m_wi ((m_run σ r n (σ 2 r)).1) (((σ 3) r) - (m_weighs σ r)) w) (by omega) (by omega) (by omega)
            refine v_istore F (pc := 124) (lo' := [some (.ref (P 0)), some (.int (iI (r))), some (.int (iI (n))), some (.int (iI (p))), some (.int (iI (w))), some (.int (iI (c))), some (.int (iI (m_rf σ r p c 0 (m_wi ((m_run σ r n (σ 2 r)).1) (((σ 3) r) - (m_weighs σ r)) w)))), some (.int (iI ((m_run σ r n (σ 2 r)).2))), some (.int (iI (0)))]) dX5_roomIn_124 (Nat.le_of_ble_eq_true rfl) rfl ?_
            refine v_iinc F (pc := 126) (lo' := [some (.ref (P 0)), some (.int (iI (r))), some (.int (iI (n))), some (.int (iI (p))), some (.int (iI (w))), some (.int (iI (c))), some (.int (iI (m_rf σ r p c 0 (m_wi ((m_run σ r n (σ 2 r)).1) (((σ 3) r) - (m_weighs σ r)) w)))), some (.int (iI ((m_run σ r n (σ 2 r)).2))), some (.int (iI (1)))]) dX5_roomIn_126 rfl (Nat.le_of_ble_eq_true rfl) rfl ?_
            refine v_goto F (pc := 129) 83 dX5_roomIn_129 (by decide) ?_
            refine v_iload F (pc := 83) dX5_roomIn_83 rfl ?_
            refine v_iconst F (pc := 85) dX5_roomIn_85 ?_
            refine v_icmp_ge F (pc := 86) (a := 1) (b := 2) 132 dX5_roomIn_86 (by decide) (by omega) (by omega) (fun c_9 => ?_) (fun c_9 => ?_)
            · exact absurd c_9 (by decide)
            · have J_10 : VE pX l eX ({ frames := 3, cells := 0, slots := 0, locals := 66 }) sX mX ([.ref (P 0), .int (iI (r)), .int (iI (n)), .int (iI (p)), .int (iI (w)), .int (iI (c))] : List Value).toArray bX tX cX 9 g AX (mheap g P σ) 0 0 124 [some (.ref (P 0)), some (.int (iI (r))), some (.int (iI (n))), some (.int (iI (p))), some (.int (iI (w))), some (.int (iI (c))), some (.int (iI (m_rf σ r p c 0 (m_wi ((m_run σ r n (σ 2 r)).1) (((σ 3) r) - (m_weighs σ r)) w)))), some (.int (iI ((m_run σ r n (σ 2 r)).2))), some (.int (iI (1)))] [.int (iI (m_rf σ r p c 1 (m_rf σ r p c 0 (m_wi ((m_run σ r n (σ 2 r)).1) (((σ 3) r) - (m_weighs σ r)) w))))] (pV (some (.int (iI (m_roomIn σ r n p w c)))) (mheap g P σ)) (noX) 0 0 := by
                have rf_11 := m_rf_rng σ r p c 1 (a := m_rf σ r p c 0 (m_wi ((m_run σ r n (σ 2 r)).1) (((σ 3) r) - (m_weighs σ r)) w)) (by omega) (by omega) (by omega)
                refine v_istore F (pc := 124) (lo' := [some (.ref (P 0)), some (.int (iI (r))), some (.int (iI (n))), some (.int (iI (p))), some (.int (iI (w))), some (.int (iI (c))), some (.int (iI (m_rf σ r p c 1 (m_rf σ r p c 0 (m_wi ((m_run σ r n (σ 2 r)).1) (((σ 3) r) - (m_weighs σ r)) w))))), some (.int (iI ((m_run σ r n (σ 2 r)).2))), some (.int (iI (1)))]) dX5_roomIn_124 (Nat.le_of_ble_eq_true rfl) rfl ?_
                refine v_iinc F (pc := 126) (lo' := [some (.ref (P 0)), some (.int (iI (r))), some (.int (iI (n))), some (.int (iI (p))), some (.int (iI (w))), some (.int (iI (c))), some (.int (iI (m_rf σ r p c 1 (m_rf σ r p c 0 (m_wi ((m_run σ r n (σ 2 r)).1) (((σ 3) r) - (m_weighs σ r)) w))))), some (.int (iI ((m_run σ r n (σ 2 r)).2))), some (.int (iI (2)))]) dX5_roomIn_126 rfl (Nat.le_of_ble_eq_true rfl) rfl ?_
                refine v_goto F (pc := 129) 83 dX5_roomIn_129 (by decide) ?_
                refine v_iload F (pc := 83) dX5_roomIn_83 rfl ?_
                refine v_iconst F (pc := 85) dX5_roomIn_85 ?_
                refine v_icmp_ge F (pc := 86) (a := 2) (b := 2) 132 dX5_roomIn_86 (by decide) (by omega) (by omega) (fun c_12 => ?_) (fun c_12 => ?_)
                · refine v_iload F (pc := 132) dX5_roomIn_132 rfl ?_
                  refine v_iret F (pc := 134) (z := (iI (m_rf σ r p c 1 (m_rf σ r p c 0 (m_wi ((m_run σ r n (σ 2 r)).1) (((σ 3) r) - (m_weighs σ r)) w))))) dX5_roomIn_134 rfl rfl (Nat.le_of_ble_eq_true rfl) (Nat.le_of_ble_eq_true rfl) ?_
                  exact ⟨rfl, rfl⟩
                · exact absurd c_12 (by decide)
              refine v_iload F (pc := 89) dX5_roomIn_89 rfl ?_
              refine v_iload F (pc := 91) dX5_roomIn_91 rfl ?_
              refine v_callSp F (pc := 93) (As := [.int (iI (c)), .int (iI (1))]) (rest := []) ci_X5_76 ct_X5_isCorded (k_X5_isCorded l g c 1 (by omega) (by omega)) dX5_roomIn_93 rfl rfl (Nat.le_of_ble_eq_true rfl) (Nat.le_of_ble_eq_true rfl) (Nat.le_of_ble_eq_true rfl) (Nat.le_of_ble_eq_true rfl) (Nat.le_of_ble_eq_true rfl) ?_ (fun _ _ z => z.elim)
              refine v_if_eqB F (pc := 96) (b := (cdd c 1)) 122 dX5_roomIn_96 (by decide) (fun c_13 => ?_) (fun c_13 => ?_)
              · refine v_iload F (pc := 122) dX5_roomIn_122 rfl ?_
                exact V.to J_10 rfl rfl (by simp only [m_rf]; simp_all)
              · refine v_iload F (pc := 99) dX5_roomIn_99 rfl ?_
                refine v_aload_n F (pc := 101) dX5_roomIn_101 rfl ?_
                refine v_getf F (pc := 102) fd_X5_19_8 (v := .ref (P 4)) dX5_roomIn_102 (mh_0 hP) rfl ?_
                refine v_iload_n F (pc := 105) dX5_roomIn_105 rfl ?_
                refine v_iald F (pc := 106) (n := 8) (f := σ 4) (z := r) dX5_roomIn_106 (mh_4 hP) (by omega) (by decide) ?_
                have b_14 : (0 : Int) ≤ (σ 4) r ∧ (σ 4) r ≤ (10000 : Int) := hB 4 r (by omega) (show r < (8 : Int) by omega)
                refine v_aload_n F (pc := 107) dX5_roomIn_107 rfl ?_
                refine v_iload_n F (pc := 108) dX5_roomIn_108 rfl ?_
                refine v_iload F (pc := 109) dX5_roomIn_109 rfl ?_
                refine v_callVp F (pc := 111) (As := [.int (iI (r)), .int (iI (1))]) (rest := [.int (iI ((σ 4) r)), .int (iI (m_rf σ r p c 0 (m_wi ((m_run σ r n (σ 2 r)).1) (((σ 3) r) - (m_weighs σ r)) w)))]) ci_X5_94 ct_X5_worst cs_X5_worst (k_X5_worst l g hP hB r 1 (by omega) (by omega)) dX5_roomIn_111 (k0 := 8) rfl rfl (mh_0 hP) rfl rfl (Nat.le_of_ble_eq_true rfl) (Nat.le_of_ble_eq_true rfl) (Nat.le_of_ble_eq_true rfl) (Nat.le_of_ble_eq_true rfl) (Nat.le_of_ble_eq_true rfl) ?_ (fun _ _ z => z.elim)
                have rg_15 := m_worst_rng hB r 1
                refine v_isub F (pc := 114) (a := (σ 4) r) (b := m_worst σ r 1) dX5_roomIn_114 ?_
                refine v_iload_n F (pc := 115) dX5_roomIn_115 rfl ?_
                refine v_callSp F (pc := 116) (As := [.int (iI (m_rf σ r p c 0 (m_wi ((m_run σ r n (σ 2 r)).1) (((σ 3) r) - (m_weighs σ r)) w))), .int (iI (((σ 4) r) - (m_worst σ r 1))), .int (iI (p))]) (rest := []) ci_X5_143 ct_X5_within (k_X5_within l g (m_rf σ r p c 0 (m_wi ((m_run σ r n (σ 2 r)).1) (((σ 3) r) - (m_weighs σ r)) w)) (((σ 4) r) - (m_worst σ r 1)) p (by omega) (by omega) (by omega) (mul_rng (by omega) (by omega))) dX5_roomIn_116 rfl rfl (Nat.le_of_ble_eq_true rfl) (Nat.le_of_ble_eq_true rfl) (Nat.le_of_ble_eq_true rfl) (Nat.le_of_ble_eq_true rfl) (Nat.le_of_ble_eq_true rfl) ?_ (fun _ _ z => z.elim)
                have rg_16 := m_wi_rng (m := m_rf σ r p c 0 (m_wi ((m_run σ r n (σ 2 r)).1) (((σ 3) r) - (m_weighs σ r)) w)) (q := ((σ 4) r) - (m_worst σ r 1)) (u := p) (by omega) (by omega) (by omega)
                refine v_goto F (pc := 119) 124 dX5_roomIn_119 (by decide) ?_
                exact V.to J_10 rfl rfl (by simp only [m_rf]; simp_all)
          refine v_iload F (pc := 89) dX5_roomIn_89 rfl ?_
          refine v_iload F (pc := 91) dX5_roomIn_91 rfl ?_
          refine v_callSp F (pc := 93) (As := [.int (iI (c)), .int (iI (0))]) (rest := []) ci_X5_76 ct_X5_isCorded (k_X5_isCorded l g c 0 (by omega) (by omega)) dX5_roomIn_93 rfl rfl (Nat.le_of_ble_eq_true rfl) (Nat.le_of_ble_eq_true rfl) (Nat.le_of_ble_eq_true rfl) (Nat.le_of_ble_eq_true rfl) (Nat.le_of_ble_eq_true rfl) ?_ (fun _ _ z => z.elim)
          refine v_if_eqB F (pc := 96) (b := (cdd c 0)) 122 dX5_roomIn_96 (by decide) (fun c_17 => ?_) (fun c_17 => ?_)
          · refine v_iload F (pc := 122) dX5_roomIn_122 rfl ?_
            exact V.to J_7 rfl rfl (by simp only [m_rf]; simp_all)
          · refine v_iload F (pc := 99) dX5_roomIn_99 rfl ?_
            refine v_aload_n F (pc := 101) dX5_roomIn_101 rfl ?_
            refine v_getf F (pc := 102) fd_X5_19_8 (v := .ref (P 4)) dX5_roomIn_102 (mh_0 hP) rfl ?_
            refine v_iload_n F (pc := 105) dX5_roomIn_105 rfl ?_
            refine v_iald F (pc := 106) (n := 8) (f := σ 4) (z := r) dX5_roomIn_106 (mh_4 hP) (by omega) (by decide) ?_
            have b_18 : (0 : Int) ≤ (σ 4) r ∧ (σ 4) r ≤ (10000 : Int) := hB 4 r (by omega) (show r < (8 : Int) by omega)
            refine v_aload_n F (pc := 107) dX5_roomIn_107 rfl ?_
            refine v_iload_n F (pc := 108) dX5_roomIn_108 rfl ?_
            refine v_iload F (pc := 109) dX5_roomIn_109 rfl ?_
            refine v_callVp F (pc := 111) (As := [.int (iI (r)), .int (iI (0))]) (rest := [.int (iI ((σ 4) r)), .int (iI (m_wi ((m_run σ r n (σ 2 r)).1) (((σ 3) r) - (m_weighs σ r)) w))]) ci_X5_94 ct_X5_worst cs_X5_worst (k_X5_worst l g hP hB r 0 (by omega) (by omega)) dX5_roomIn_111 (k0 := 8) rfl rfl (mh_0 hP) rfl rfl (Nat.le_of_ble_eq_true rfl) (Nat.le_of_ble_eq_true rfl) (Nat.le_of_ble_eq_true rfl) (Nat.le_of_ble_eq_true rfl) (Nat.le_of_ble_eq_true rfl) ?_ (fun _ _ z => z.elim)
            have rg_19 := m_worst_rng hB r 0
            refine v_isub F (pc := 114) (a := (σ 4) r) (b := m_worst σ r 0) dX5_roomIn_114 ?_
            refine v_iload_n F (pc := 115) dX5_roomIn_115 rfl ?_
            refine v_callSp F (pc := 116) (As := [.int (iI (m_wi ((m_run σ r n (σ 2 r)).1) (((σ 3) r) - (m_weighs σ r)) w)), .int (iI (((σ 4) r) - (m_worst σ r 0))), .int (iI (p))]) (rest := []) ci_X5_143 ct_X5_within (k_X5_within l g (m_wi ((m_run σ r n (σ 2 r)).1) (((σ 3) r) - (m_weighs σ r)) w) (((σ 4) r) - (m_worst σ r 0)) p (by omega) (by omega) (by omega) (mul_rng (by omega) (by omega))) dX5_roomIn_116 rfl rfl (Nat.le_of_ble_eq_true rfl) (Nat.le_of_ble_eq_true rfl) (Nat.le_of_ble_eq_true rfl) (Nat.le_of_ble_eq_true rfl) (Nat.le_of_ble_eq_true rfl) ?_ (fun _ _ z => z.elim)
            have rg_20 := m_wi_rng (m := m_wi ((m_run σ r n (σ 2 r)).1) (((σ 3) r) - (m_weighs σ r)) w) (q := ((σ 4) r) - (m_worst σ r 0)) (u := p) (by omega) (by omega) (by omega)
            refine v_goto F (pc := 119) 124 dX5_roomIn_119 (by decide) ?_
            exact V.to J_7 rfl rfl (by simp only [m_rf]; simp_all)
      · refine v_aload_n F (pc := 20) dX5_roomIn_20 rfl ?_
        refine v_iload_n F (pc := 21) dX5_roomIn_21 rfl ?_
        refine v_iload F (pc := 22) dX5_roomIn_22 rfl ?_
        refine v_callVp F (pc := 24) (As := [.int (iI (r)), .int (iI (s))]) (rest := []) ci_X5_101 ct_X5_inSlot cs_X5_inSlot (k_X5_inSlot l g hP hB r s (by omega) (by omega)) dX5_roomIn_24 (k0 := 8) rfl rfl (mh_0 hP) rfl rfl (Nat.le_of_ble_eq_true rfl) (Nat.le_of_ble_eq_true rfl) (Nat.le_of_ble_eq_true rfl) (Nat.le_of_ble_eq_true rfl) (Nat.le_of_ble_eq_true rfl) ?_ (fun _ _ z => z.elim)
        have rg_21 := m_inSlot_rng hB r s
        refine v_iconst F (pc := 27) dX5_roomIn_27 ?_
        refine v_icmp_ne F (pc := 28) (a := m_inSlot σ r s) (b := -1) 38 dX5_roomIn_28 (by decide) (by omega) (by omega) (fun c_22 => ?_) (fun c_22 => ?_)
        · refine v_iconst F (pc := 38) dX5_roomIn_38 ?_
          refine v_istore F (pc := 39) (lo' := [some (.ref (P 0)), some (.int (iI (r))), some (.int (iI (n))), some (.int (iI (p))), some (.int (iI (w))), some (.int (iI (c))), some (.int (iI ((m_run σ r n s).1))), some (.int (iI (0))), some (.int (iI (s)))]) dX5_roomIn_39 (Nat.le_of_ble_eq_true rfl) rfl ?_
          refine v_iload F (pc := 41) dX5_roomIn_41 rfl ?_
          refine v_iload_n F (pc := 43) dX5_roomIn_43 rfl ?_
          refine v_icmp_ne F (pc := 44) (a := 0) (b := n) 53 dX5_roomIn_44 (by decide) (by omega) (by omega) (fun c_23 => ?_) (fun c_23 => ?_)
          · refine v_iinc F (pc := 53) (lo' := [some (.ref (P 0)), some (.int (iI (r))), some (.int (iI (n))), some (.int (iI (p))), some (.int (iI (w))), some (.int (iI (c))), some (.int (iI ((m_run σ r n s).1))), some (.int (iI (0))), some (.int (iI (s + 1)))]) dX5_roomIn_53 rfl (Nat.le_of_ble_eq_true rfl) rfl ?_
            refine v_goto F (pc := 56) 9 dX5_roomIn_56 (by decide) ?_
            have e_ : m_run σ r n (s + 1) = ((m_run σ r n s).1, 0) := by rw [m_run_s σ r n hs0]; (repeat' split) <;> first | rfl | (exfalso; omega) | simp_all
            have ih2 := ih (s + 1) (by omega) (by omega) (by omega)
            rw [e_] at ih2
            exact ih2
          · refine v_iinc F (pc := 47) (lo' := [some (.ref (P 0)), some (.int (iI (r))), some (.int (iI (n))), some (.int (iI (p))), some (.int (iI (w))), some (.int (iI (c))), some (.int (iI ((m_run σ r n s).1 + 1))), some (.int (iI (0))), some (.int (iI (s)))]) dX5_roomIn_47 rfl (Nat.le_of_ble_eq_true rfl) rfl ?_
            refine v_iconst F (pc := 50) dX5_roomIn_50 ?_
            refine v_istore F (pc := 51) (lo' := [some (.ref (P 0)), some (.int (iI (r))), some (.int (iI (n))), some (.int (iI (p))), some (.int (iI (w))), some (.int (iI (c))), some (.int (iI ((m_run σ r n s).1 + 1))), some (.int (iI (0))), some (.int (iI (s)))]) dX5_roomIn_51 (Nat.le_of_ble_eq_true rfl) rfl ?_
            refine v_iinc F (pc := 53) (lo' := [some (.ref (P 0)), some (.int (iI (r))), some (.int (iI (n))), some (.int (iI (p))), some (.int (iI (w))), some (.int (iI (c))), some (.int (iI ((m_run σ r n s).1 + 1))), some (.int (iI (0))), some (.int (iI (s + 1)))]) dX5_roomIn_53 rfl (Nat.le_of_ble_eq_true rfl) rfl ?_
            refine v_goto F (pc := 56) 9 dX5_roomIn_56 (by decide) ?_
            have e_ : m_run σ r n (s + 1) = ((m_run σ r n s).1 + 1, 0) := by rw [m_run_s σ r n hs0]; (repeat' split) <;> first | rfl | (exfalso; omega) | simp_all
            have ih2 := ih (s + 1) (by omega) (by omega) (by omega)
            rw [e_] at ih2
            exact ih2
        · refine v_iload F (pc := 31) dX5_roomIn_31 rfl ?_
          refine v_iconst F (pc := 33) dX5_roomIn_33 ?_
          refine v_iadd F (pc := 34) (a := (m_run σ r n s).2) (b := 1) dX5_roomIn_34 ?_
          refine v_goto F (pc := 35) 39 dX5_roomIn_35 (by decide) ?_
          refine v_istore F (pc := 39) (lo' := [some (.ref (P 0)), some (.int (iI (r))), some (.int (iI (n))), some (.int (iI (p))), some (.int (iI (w))), some (.int (iI (c))), some (.int (iI ((m_run σ r n s).1))), some (.int (iI (((m_run σ r n s).2) + 1))), some (.int (iI (s)))]) dX5_roomIn_39 (Nat.le_of_ble_eq_true rfl) rfl ?_
          refine v_iload F (pc := 41) dX5_roomIn_41 rfl ?_
          refine v_iload_n F (pc := 43) dX5_roomIn_43 rfl ?_
          refine v_icmp_ne F (pc := 44) (a := ((m_run σ r n s).2) + 1) (b := n) 53 dX5_roomIn_44 (by decide) (by omega) (by omega) (fun c_24 => ?_) (fun c_24 => ?_)
          · refine v_iinc F (pc := 53) (lo' := [some (.ref (P 0)), some (.int (iI (r))), some (.int (iI (n))), some (.int (iI (p))), some (.int (iI (w))), some (.int (iI (c))), some (.int (iI ((m_run σ r n s).1))), some (.int (iI (((m_run σ r n s).2) + 1))), some (.int (iI (s + 1)))]) dX5_roomIn_53 rfl (Nat.le_of_ble_eq_true rfl) rfl ?_
            refine v_goto F (pc := 56) 9 dX5_roomIn_56 (by decide) ?_
            have e_ : m_run σ r n (s + 1) = ((m_run σ r n s).1, ((m_run σ r n s).2) + 1) := by rw [m_run_s σ r n hs0]; (repeat' split) <;> first | rfl | (exfalso; omega) | simp_all
            have ih2 := ih (s + 1) (by omega) (by omega) (by omega)
            rw [e_] at ih2
            exact ih2
          · refine v_iinc F (pc := 47) (lo' := [some (.ref (P 0)), some (.int (iI (r))), some (.int (iI (n))), some (.int (iI (p))), some (.int (iI (w))), some (.int (iI (c))), some (.int (iI ((m_run σ r n s).1 + 1))), some (.int (iI (((m_run σ r n s).2) + 1))), some (.int (iI (s)))]) dX5_roomIn_47 rfl (Nat.le_of_ble_eq_true rfl) rfl ?_
            refine v_iconst F (pc := 50) dX5_roomIn_50 ?_
            refine v_istore F (pc := 51) (lo' := [some (.ref (P 0)), some (.int (iI (r))), some (.int (iI (n))), some (.int (iI (p))), some (.int (iI (w))), some (.int (iI (c))), some (.int (iI ((m_run σ r n s).1 + 1))), some (.int (iI (0))), some (.int (iI (s)))]) dX5_roomIn_51 (Nat.le_of_ble_eq_true rfl) rfl ?_
            refine v_iinc F (pc := 53) (lo' := [some (.ref (P 0)), some (.int (iI (r))), some (.int (iI (n))), some (.int (iI (p))), some (.int (iI (w))), some (.int (iI (c))), some (.int (iI ((m_run σ r n s).1 + 1))), some (.int (iI (0))), some (.int (iI (s + 1)))]) dX5_roomIn_53 rfl (Nat.le_of_ble_eq_true rfl) rfl ?_
            refine v_goto F (pc := 56) 9 dX5_roomIn_56 (by decide) ?_
            have e_ : m_run σ r n (s + 1) = ((m_run σ r n s).1 + 1, 0) := by rw [m_run_s σ r n hs0]; (repeat' split) <;> first | rfl | (exfalso; omega) | simp_all
            have ih2 := ih (s + 1) (by omega) (by omega) (by omega)
            rw [e_] at ih2
            exact ih2
  exact LP9 _ 0 (Int.le_refl 0) (by omega) (Nat.lt_succ_self _)
