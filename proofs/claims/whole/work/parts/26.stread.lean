/-! stacks, read -/
def okT (mem : zMem) (t : Int) : Prop := (0 ≤ mem t 1 ∧ mem t 1 ≤ 12) ∧ (0 ≤ mem t 2 ∧ mem t 2 ≤ 25) ∧ (0 ≤ mem t 3 ∧ mem t 3 ≤ 4) ∧ (∀ s, 0 ≤ s → s < 25 → 0 ≤ mem (t + 2) s ∧ mem (t + 2) s ≤ 8) ∧ (∀ x, 0 ≤ x → x < 100 → 0 ≤ mem (t + 3) x ∧ mem (t + 3) x ≤ 60) ∧ (∀ c, 0 ≤ c → c < 4 → mem (t + 4) c = 0 ∨ mem (t + 4) c = 1)
def sdS (mem : zMem) (t s j c : Int) : Int := cmpI (mem (t + 3) (4 * s + c)) (if mem (t + 4) c = 0 then j else s) + 1
theorem sdS_r (mem : zMem) (t s j c : Int) : 0 ≤ sdS mem t s j c ∧ sdS mem t s j c ≤ 2 := by
  have := cmpI_r (mem (t + 3) (4 * s + c)) (if mem (t + 4) c = 0 then j else s)
  unfold sdS
  omega
theorem sdS_i (mem : zMem) (t s j c : Int) : I32 (sdS mem t s j c) := by have := sdS_r mem t s j c; omega
theorem s_St_has (mem : zMem) (t i : Int) (h : isSt t) (hi : I32 i) (hn : I32 (mem t 2)) : zF m_St_has [(2, t), (0, i)] mem (fun r m => r = some (0, zb (0 ≤ i ∧ i < mem t 2)) ∧ m = mem) := by
  refine zF_of (by decide) (Nat.le_of_ble_eq_true rfl) ?_
  show zS zT m_St_has (0, 0) 0 [some (2, t), some (0, i)] [] mem _
  refine zV_iload_n d_St_has_0 rfl ?_
  refine zV_if_lt d_St_has_1 (by omega) (fun c1 => ?_) (fun c1 => ?_)
  · refine zV_iconst d_St_has_16 ?_
    exact zS_zret d_St_has_17 rfl ⟨Nat.zero_le _, Nat.zero_le _⟩ (Or.inl rfl) (by refine ⟨?_, rfl⟩; first | rw [zb_t (by omega)] | rw [zb_f (by omega)])
  · refine zV_iload_n d_St_has_4 rfl ?_
    refine zV_aload_n d_St_has_5 rfl ?_
    refine zS_get d_St_has_6 f_St_21 (kSt0 h) rfl ?_
    refine zV_icmp_ge d_St_has_9 (by omega) (by omega) (fun c9 => ?_) (fun c9 => ?_)
    · refine zV_iconst d_St_has_16 ?_
      exact zS_zret d_St_has_17 rfl ⟨Nat.zero_le _, Nat.zero_le _⟩ (Or.inl rfl) (by refine ⟨?_, rfl⟩; first | rw [zb_t (by omega)] | rw [zb_f (by omega)])
    · refine zV_iconst d_St_has_12 ?_
      refine zV_goto d_St_has_13 ?_
      exact zS_zret d_St_has_17 rfl ⟨Nat.zero_le _, Nat.zero_le _⟩ (Or.inr rfl) (by refine ⟨?_, rfl⟩; first | rw [zb_t (by omega)] | rw [zb_f (by omega)])
theorem s_St_hasCell (mem : zMem) (t i j : Int) (h : isSt t) (hT : okT mem t) (hi : I32 i) (hj : I32 j) : zF m_St_hasCell [(2, t), (0, i), (0, j)] mem (fun r m => r = some (0, zb (0 ≤ i ∧ i < mem t 2 ∧ 0 ≤ j ∧ j ≤ mem (t + 2) i)) ∧ m = mem) := by
  obtain ⟨t1, t2, t3, t4, t5, t6⟩ := id hT
  have f1 := t4 i
  refine zF_of (by decide) (Nat.le_of_ble_eq_true rfl) ?_
  show zS zT m_St_hasCell (0, 0) 0 [some (2, t), some (0, i), some (0, j)] [] mem _
  refine zV_aload_n d_St_hasCell_0 rfl ?_
  refine zV_iload_n d_St_hasCell_1 rfl ?_
  refine zS_invvE (mt' := m_St_has) (avs := [(0, i)]) (st := []) d_St_hasCell_2 l_St_149 k_St_has (kSt0 h) rfl rfl rfl rfl (s_St_has mem t i h (by omega) (by omega)) ?_
  show zS zT m_St_hasCell (0, 0) 5 [some (2, t), some (0, i), some (0, j)] [(0, (zb (0 ≤ i ∧ i < mem t 2)))] mem _
  refine zV_ifb_eq d_St_hasCell_5 (fun c5 => ?_) (fun c5 => ?_)
  · refine zV_iconst d_St_hasCell_26 ?_
    exact zS_zret d_St_hasCell_27 rfl ⟨Nat.zero_le _, Nat.zero_le _⟩ (Or.inl rfl) (by refine ⟨?_, rfl⟩; first | rw [zb_t (by omega)] | rw [zb_f (by omega)])
  · refine zV_iload_n d_St_hasCell_8 rfl ?_
    refine zV_if_lt d_St_hasCell_9 (by omega) (fun c9 => ?_) (fun c9 => ?_)
    · refine zV_iconst d_St_hasCell_26 ?_
      exact zS_zret d_St_hasCell_27 rfl ⟨Nat.zero_le _, Nat.zero_le _⟩ (Or.inl rfl) (by refine ⟨?_, rfl⟩; first | rw [zb_t (by omega)] | rw [zb_f (by omega)])
    · refine zV_iload_n d_St_hasCell_12 rfl ?_
      refine zV_aload_n d_St_hasCell_13 rfl ?_
      refine zS_getr (r := (t + 2)) d_St_hasCell_14 f_St_27 (kSt0 h) rfl rfl ?_
      refine zV_iload_n d_St_hasCell_17 rfl ?_
      refine zS_iald d_St_hasCell_18 (kSt2 h) rfl ⟨by omega, by omega⟩ ?_
      refine zV_icmp_gt d_St_hasCell_19 (by omega) (by omega) (fun c19 => ?_) (fun c19 => ?_)
      · refine zV_iconst d_St_hasCell_26 ?_
        exact zS_zret d_St_hasCell_27 rfl ⟨Nat.zero_le _, Nat.zero_le _⟩ (Or.inl rfl) (by refine ⟨?_, rfl⟩; first | rw [zb_t (by omega)] | rw [zb_f (by omega)])
      · refine zV_iconst d_St_hasCell_22 ?_
        refine zV_goto d_St_hasCell_23 ?_
        exact zS_zret d_St_hasCell_27 rfl ⟨Nat.zero_le _, Nat.zero_le _⟩ (Or.inr rfl) (by refine ⟨?_, rfl⟩; first | rw [zb_t (by omega)] | rw [zb_f (by omega)])
def scS (mem : zMem) (t : Int) : Int := zsm (fun s => mem (t + 2) s / 2) (mem t 2 - 0).toNat 0
theorem s_St_sections_l (mem : zMem) (t : Int) (h : isSt t) (hT : okT mem t) (q : Int) : ∀ (i : Int) (acc : Int), (0 ≤ i) → (i ≤ mem t 2) → (acc + zsm (fun s => mem (t + 2) s / 2) (mem t 2 - i).toNat i = q) → zS zT m_St_sections (0, 0) 4 [some (2, t), some (0, acc), some (0, i)] [] mem (zQs (fun r m => r = some (0, q) ∧ m = mem)) := by
  intro i acc
  obtain ⟨k9, hk9⟩ : ∃ k : Nat, (mem t 2 - i).toNat = k := ⟨_, rfl⟩
  induction k9 using Nat.strongRecOn generalizing i acc with
  | _ k9 ih =>
    intro i0 i1 i2
    obtain ⟨t1, t2, t3, t4, t5, t6⟩ := id hT
    have f1 := t4 i
    refine zV_iload_n d_St_sections_4 rfl ?_
    refine zV_aload_n d_St_sections_5 rfl ?_
    refine zS_get d_St_sections_6 f_St_21 (kSt0 h) rfl ?_
    refine zV_icmp_ge d_St_sections_9 (by omega) (by omega) (fun c9 => ?_) (fun c9 => ?_)
    · refine zV_iload_n d_St_sections_29 rfl ?_
      exact zS_iret d_St_sections_30 rfl ⟨Nat.zero_le _, Nat.zero_le _⟩ ⟨by rw [← i2, zsm_e (n := mem t 2) (by omega), Int.add_zero], rfl⟩
    · refine zV_iload_n d_St_sections_12 rfl ?_
      refine zV_aload_n d_St_sections_13 rfl ?_
      refine zS_getr (r := (t + 2)) d_St_sections_14 f_St_27 (kSt0 h) rfl rfl ?_
      refine zV_iload_n d_St_sections_17 rfl ?_
      refine zS_iald d_St_sections_18 (kSt2 h) rfl ⟨by omega, by omega⟩ ?_
      refine zV_iconst d_St_sections_19 ?_
      refine zV_idiv_p d_St_sections_20 (by omega) (by omega) ?_
      refine zV_iadd d_St_sections_21 ?_
      refine zV_istore_n (L' := [some (2, t), some (0, (acc + ((mem (t + 2) i) / 2))), some (0, i)]) d_St_sections_22 (by decide) rfl ?_
      refine zV_iinc (L' := [some (2, t), some (0, (acc + ((mem (t + 2) i) / 2))), some (0, (i + 1))]) d_St_sections_23 (by decide) rfl rfl ?_
      refine zV_goto d_St_sections_26 ?_
      refine ih _ (by omega) _ _ rfl (by omega) (by omega) ?_
      rw [← i2, zsm_s (n := mem t 2) (i := i) (by omega)]
      omega
theorem s_St_sections (mem : zMem) (t : Int) (h : isSt t) (hT : okT mem t) : zF m_St_sections [(2, t)] mem (fun r m => r = some (0, scS mem t) ∧ m = mem) := by
  obtain ⟨t1, t2, t3, t4, t5, t6⟩ := id hT
  refine zF_of (by decide) (Nat.le_of_ble_eq_true rfl) ?_
  show zS zT m_St_sections (0, 0) 0 [some (2, t), none, none] [] mem _
  refine zV_iconst d_St_sections_0 ?_
  refine zV_istore_n (L' := [some (2, t), some (0, 0), none]) d_St_sections_1 (by decide) rfl ?_
  refine zV_iconst d_St_sections_2 ?_
  refine zV_istore_n (L' := [some (2, t), some (0, 0), some (0, 0)]) d_St_sections_3 (by decide) rfl ?_
  exact s_St_sections_l mem t h hT _ 0 0 (by omega) (by omega) (by rw [Int.zero_add]; rfl)
theorem s_St_cells (mem : zMem) (t : Int) (h : isSt t) (hT : okT mem t) : zF m_St_cells [(2, t)] mem (fun r m => r = some (0, mem t 2 + 2 * scS mem t) ∧ m = mem) := by
  refine zF_of (by decide) (Nat.le_of_ble_eq_true rfl) ?_
  show zS zT m_St_cells (0, 0) 0 [some (2, t)] [] mem _
  refine zV_aload_n d_St_cells_0 rfl ?_
  refine zS_get d_St_cells_1 f_St_21 (kSt0 h) rfl ?_
  refine zV_iconst d_St_cells_4 ?_
  refine zV_aload_n d_St_cells_5 rfl ?_
  refine zS_invvE (mt' := m_St_sections) (avs := []) (st := [(0, 2), (0, (mem t 2))]) d_St_cells_6 l_St_152 k_St_sections (kSt0 h) rfl rfl rfl rfl (s_St_sections mem t h hT) ?_
  show zS zT m_St_cells (0, 0) 9 [some (2, t)] [(0, (scS mem t)), (0, 2), (0, (mem t 2))] mem _
  refine zV_imul d_St_cells_9 ?_
  refine zV_iadd d_St_cells_10 ?_
  exact zS_iret d_St_cells_11 rfl ⟨Nat.zero_le _, Nat.zero_le _⟩ ⟨rfl, rfl⟩
theorem s_St_sideOf (mem : zMem) (t s j c : Int) (h : isSt t) (hT : okT mem t) (hs : 0 ≤ s ∧ s < 25) (hj : I32 j) (hc : 0 ≤ c ∧ c < 4) : zF m_St_sideOf [(2, t), (0, s), (0, j), (0, c)] mem (fun r m => r = some (0, sdS mem t s j c) ∧ m = mem) := by
  obtain ⟨t1, t2, t3, t4, t5, t6⟩ := id hT
  have f1 := t6 c hc.1 hc.2
  have f2 := t5 (4 * s + c) (by omega) (by omega)
  refine zF_of (by decide) (Nat.le_of_ble_eq_true rfl) ?_
  show zS zT m_St_sideOf (0, 0) 0 [some (2, t), some (0, s), some (0, j), some (0, c), none] [] mem _
  refine zV_aload_n d_St_sideOf_0 rfl ?_
  refine zS_getr (r := (t + 4)) d_St_sideOf_1 f_St_34 (kSt0 h) rfl rfl ?_
  refine zV_iload_n d_St_sideOf_4 rfl ?_
  refine zS_zald d_St_sideOf_5 (kSt4 h) rfl ⟨by omega, by omega⟩ ?_
  refine zV_if_eq d_St_sideOf_6 (by omega) (fun c6 => ?_) (fun c6 => ?_)
  · refine zV_iload_n d_St_sideOf_13 rfl ?_
    refine zV_istore (L' := [some (2, t), some (0, s), some (0, j), some (0, c), some (0, j)]) d_St_sideOf_14 (by decide) rfl ?_
    refine zV_aload_n d_St_sideOf_16 rfl ?_
    refine zS_getr (r := (t + 3)) d_St_sideOf_17 f_St_31 (kSt0 h) rfl rfl ?_
    refine zV_iconst d_St_sideOf_20 ?_
    refine zV_iload_n d_St_sideOf_21 rfl ?_
    refine zV_imul d_St_sideOf_22 ?_
    refine zV_iload_n d_St_sideOf_23 rfl ?_
    refine zV_iadd d_St_sideOf_24 ?_
    refine zS_iald d_St_sideOf_25 (kSt3 h) rfl ⟨by omega, by omega⟩ ?_
    refine zV_iload d_St_sideOf_26 rfl ?_
    refine zS_invsE (mt' := m_In_compare) (avs := [(0, (mem (t + 3) ((4 * s) + c))), (0, j)]) (st := []) d_St_sideOf_28 l_St_125 k_In_compare rfl rfl rfl rfl (s_In_compare mem (mem (t + 3) ((4 * s) + c)) j (by omega) (by omega)) ?_
    show zS zT m_St_sideOf (0, 0) 31 [some (2, t), some (0, s), some (0, j), some (0, c), some (0, j)] [(0, (cmpI (mem (t + 3) ((4 * s) + c)) j))] mem _
    refine zV_iconst d_St_sideOf_31 ?_
    refine zV_iadd d_St_sideOf_32 ?_
    exact zS_iret d_St_sideOf_33 rfl ⟨Nat.zero_le _, Nat.zero_le _⟩ (by refine ⟨?_, rfl⟩; unfold sdS; first | rw [if_pos (by omega)] | rw [if_neg (by omega)])
  · refine zV_iload_n d_St_sideOf_9 rfl ?_
    refine zV_goto d_St_sideOf_10 ?_
    refine zV_istore (L' := [some (2, t), some (0, s), some (0, j), some (0, c), some (0, s)]) d_St_sideOf_14 (by decide) rfl ?_
    refine zV_aload_n d_St_sideOf_16 rfl ?_
    refine zS_getr (r := (t + 3)) d_St_sideOf_17 f_St_31 (kSt0 h) rfl rfl ?_
    refine zV_iconst d_St_sideOf_20 ?_
    refine zV_iload_n d_St_sideOf_21 rfl ?_
    refine zV_imul d_St_sideOf_22 ?_
    refine zV_iload_n d_St_sideOf_23 rfl ?_
    refine zV_iadd d_St_sideOf_24 ?_
    refine zS_iald d_St_sideOf_25 (kSt3 h) rfl ⟨by omega, by omega⟩ ?_
    refine zV_iload d_St_sideOf_26 rfl ?_
    refine zS_invsE (mt' := m_In_compare) (avs := [(0, (mem (t + 3) ((4 * s) + c))), (0, s)]) (st := []) d_St_sideOf_28 l_St_125 k_In_compare rfl rfl rfl rfl (s_In_compare mem (mem (t + 3) ((4 * s) + c)) s (by omega) (by omega)) ?_
    show zS zT m_St_sideOf (0, 0) 31 [some (2, t), some (0, s), some (0, j), some (0, c), some (0, s)] [(0, (cmpI (mem (t + 3) ((4 * s) + c)) s))] mem _
    refine zV_iconst d_St_sideOf_31 ?_
    refine zV_iadd d_St_sideOf_32 ?_
    exact zS_iret d_St_sideOf_33 rfl ⟨Nat.zero_le _, Nat.zero_le _⟩ (by refine ⟨?_, rfl⟩; unfold sdS; first | rw [if_pos (by omega)] | rw [if_neg (by omega)])
noncomputable def upA (mem : zMem) (t p : Int) : Int := zsm (fun c => zb (mem (t + 4) c ≠ 0 ∧ mem (t + 3) c = 2 * p + 1)) (mem t 3 - 0).toNat 0
theorem s_St_uprightsAt_l (mem : zMem) (t p : Int) (h : isSt t) (hT : okT mem t) (hp : 0 ≤ p ∧ p < 12) (q : Int) : ∀ (i : Int) (acc : Int), (0 ≤ i) → (i ≤ mem t 3) → (acc + zsm (fun c => zb (mem (t + 4) c ≠ 0 ∧ mem (t + 3) c = 2 * p + 1)) (mem t 3 - i).toNat i = q) → zS zT m_St_uprightsAt (0, 0) 4 [some (2, t), some (0, p), some (0, acc), some (0, i)] [] mem (zQs (fun r m => r = some (0, q) ∧ m = mem)) := by
  intro i acc
  obtain ⟨k9, hk9⟩ : ∃ k : Nat, (mem t 3 - i).toNat = k := ⟨_, rfl⟩
  induction k9 using Nat.strongRecOn generalizing i acc with
  | _ k9 ih =>
    intro i0 i1 i2
    obtain ⟨t1, t2, t3, t4, t5, t6⟩ := id hT
    have f1 := t6 i i0
    have f2 := t5 i i0
    refine zV_iload_n d_St_uprightsAt_4 rfl ?_
    refine zV_aload_n d_St_uprightsAt_5 rfl ?_
    refine zS_get d_St_uprightsAt_6 f_St_24 (kSt0 h) rfl ?_
    refine zV_icmp_ge d_St_uprightsAt_9 (by omega) (by omega) (fun c9 => ?_) (fun c9 => ?_)
    · refine zV_iload_n d_St_uprightsAt_44 rfl ?_
      exact zS_iret d_St_uprightsAt_45 rfl ⟨Nat.zero_le _, Nat.zero_le _⟩ ⟨by rw [← i2, zsm_e (n := mem t 3) (by omega), Int.add_zero], rfl⟩
    · refine zV_aload_n d_St_uprightsAt_12 rfl ?_
      refine zS_getr (r := (t + 4)) d_St_uprightsAt_13 f_St_34 (kSt0 h) rfl rfl ?_
      refine zV_iload_n d_St_uprightsAt_16 rfl ?_
      refine zS_zald d_St_uprightsAt_17 (kSt4 h) rfl ⟨by omega, by omega⟩ ?_
      refine zV_if_eq d_St_uprightsAt_18 (by omega) (fun c18 => ?_) (fun c18 => ?_)
      · refine zV_iinc (L' := [some (2, t), some (0, p), some (0, acc), some (0, (i + 1))]) d_St_uprightsAt_38 (by decide) rfl rfl ?_
        refine zV_goto d_St_uprightsAt_41 ?_
        refine ih _ (by omega) _ _ rfl (by omega) (by omega) ?_
        rw [← i2, zsm_s (n := mem t 3) (i := i) (by omega)]
        first | rw [zb_t (by omega)] | rw [zb_f (by omega)]
        omega
      · refine zV_aload_n d_St_uprightsAt_21 rfl ?_
        refine zS_getr (r := (t + 3)) d_St_uprightsAt_22 f_St_31 (kSt0 h) rfl rfl ?_
        refine zV_iload_n d_St_uprightsAt_25 rfl ?_
        refine zS_iald d_St_uprightsAt_26 (kSt3 h) rfl ⟨by omega, by omega⟩ ?_
        refine zV_iconst d_St_uprightsAt_27 ?_
        refine zV_iload_n d_St_uprightsAt_28 rfl ?_
        refine zV_imul d_St_uprightsAt_29 ?_
        refine zV_iconst d_St_uprightsAt_30 ?_
        refine zV_iadd d_St_uprightsAt_31 ?_
        refine zV_icmp_ne d_St_uprightsAt_32 (by omega) (by omega) (fun c32 => ?_) (fun c32 => ?_)
        · refine zV_iinc (L' := [some (2, t), some (0, p), some (0, acc), some (0, (i + 1))]) d_St_uprightsAt_38 (by decide) rfl rfl ?_
          refine zV_goto d_St_uprightsAt_41 ?_
          refine ih _ (by omega) _ _ rfl (by omega) (by omega) ?_
          rw [← i2, zsm_s (n := mem t 3) (i := i) (by omega)]
          first | rw [zb_t (by omega)] | rw [zb_f (by omega)]
          omega
        · refine zV_iinc (L' := [some (2, t), some (0, p), some (0, (acc + 1)), some (0, i)]) d_St_uprightsAt_35 (by decide) rfl rfl ?_
          refine zV_iinc (L' := [some (2, t), some (0, p), some (0, (acc + 1)), some (0, (i + 1))]) d_St_uprightsAt_38 (by decide) rfl rfl ?_
          refine zV_goto d_St_uprightsAt_41 ?_
          refine ih _ (by omega) _ _ rfl (by omega) (by omega) ?_
          rw [← i2, zsm_s (n := mem t 3) (i := i) (by omega)]
          first | rw [zb_t (by omega)] | rw [zb_f (by omega)]
          omega
theorem s_St_uprightsAt (mem : zMem) (t p : Int) (h : isSt t) (hT : okT mem t) (hp : 0 ≤ p ∧ p < 12) : zF m_St_uprightsAt [(2, t), (0, p)] mem (fun r m => r = some (0, upA mem t p) ∧ m = mem) := by
  obtain ⟨t1, t2, t3, t4, t5, t6⟩ := id hT
  refine zF_of (by decide) (Nat.le_of_ble_eq_true rfl) ?_
  show zS zT m_St_uprightsAt (0, 0) 0 [some (2, t), some (0, p), none, none] [] mem _
  refine zV_iconst d_St_uprightsAt_0 ?_
  refine zV_istore_n (L' := [some (2, t), some (0, p), some (0, 0), none]) d_St_uprightsAt_1 (by decide) rfl ?_
  refine zV_iconst d_St_uprightsAt_2 ?_
  refine zV_istore_n (L' := [some (2, t), some (0, p), some (0, 0), some (0, 0)]) d_St_uprightsAt_3 (by decide) rfl ?_
  exact s_St_uprightsAt_l mem t p h hT hp _ 0 0 (by omega) (by omega) (by rw [Int.zero_add]; rfl)
def mtP (mem : zMem) (t p i j : Int) : Prop := mem (t + 3) (8 * p + 4 + i) = mem (t + 3) (8 * p + 4 + j) ∧ mem (t + 3) (8 * p + i) ≠ mem (t + 3) (8 * p + j)
theorem s_St_meetAt (mem : zMem) (t p i j : Int) (h : isSt t) (hT : okT mem t) (hp : 0 ≤ p ∧ p < 12) (hi : 0 ≤ i ∧ i < 4) (hj : 0 ≤ j ∧ j < 4) : zF m_St_meetAt [(2, t), (0, p), (0, i), (0, j)] mem (fun r m => r = some (0, zb (mtP mem t p i j)) ∧ m = mem) := by
  obtain ⟨t1, t2, t3, t4, t5, t6⟩ := id hT
  have f1 := t5 (8 * p + 4 + i) (by omega) (by omega)
  have f2 := t5 (8 * p + 4 + j) (by omega) (by omega)
  have f3 := t5 (8 * p + i) (by omega) (by omega)
  have f4 := t5 (8 * p + j) (by omega) (by omega)
  refine zF_of (by decide) (Nat.le_of_ble_eq_true rfl) ?_
  show zS zT m_St_meetAt (0, 0) 0 [some (2, t), some (0, p), some (0, i), some (0, j), none, none] [] mem _
  refine zV_bipush d_St_meetAt_0 ?_
  refine zV_iload_n d_St_meetAt_2 rfl ?_
  refine zV_imul d_St_meetAt_3 ?_
  refine zV_istore (L' := [some (2, t), some (0, p), some (0, i), some (0, j), some (0, (8 * p)), none]) d_St_meetAt_4 (by decide) rfl ?_
  refine zV_iload d_St_meetAt_6 rfl ?_
  refine zV_iconst d_St_meetAt_8 ?_
  refine zV_iadd d_St_meetAt_9 ?_
  refine zV_istore (L' := [some (2, t), some (0, p), some (0, i), some (0, j), some (0, (8 * p)), some (0, ((8 * p) + 4))]) d_St_meetAt_10 (by decide) rfl ?_
  refine zV_aload_n d_St_meetAt_12 rfl ?_
  refine zS_getr (r := (t + 3)) d_St_meetAt_13 f_St_31 (kSt0 h) rfl rfl ?_
  refine zV_iload d_St_meetAt_16 rfl ?_
  refine zV_iload_n d_St_meetAt_18 rfl ?_
  refine zV_iadd d_St_meetAt_19 ?_
  refine zS_iald d_St_meetAt_20 (kSt3 h) rfl ⟨by omega, by omega⟩ ?_
  refine zV_aload_n d_St_meetAt_21 rfl ?_
  refine zS_getr (r := (t + 3)) d_St_meetAt_22 f_St_31 (kSt0 h) rfl rfl ?_
  refine zV_iload d_St_meetAt_25 rfl ?_
  refine zV_iload_n d_St_meetAt_27 rfl ?_
  refine zV_iadd d_St_meetAt_28 ?_
  refine zS_iald d_St_meetAt_29 (kSt3 h) rfl ⟨by omega, by omega⟩ ?_
  refine zV_icmp_ne d_St_meetAt_30 (by omega) (by omega) (fun c30 => ?_) (fun c30 => ?_)
  · refine zV_iconst d_St_meetAt_58 ?_
    exact zS_zret d_St_meetAt_59 rfl ⟨Nat.zero_le _, Nat.zero_le _⟩ (Or.inl rfl) (by refine ⟨?_, rfl⟩; first | rw [zb_t (by unfold mtP; omega)] | rw [zb_f (by unfold mtP; omega)])
  · refine zV_aload_n d_St_meetAt_33 rfl ?_
    refine zS_getr (r := (t + 3)) d_St_meetAt_34 f_St_31 (kSt0 h) rfl rfl ?_
    refine zV_iload d_St_meetAt_37 rfl ?_
    refine zV_iload_n d_St_meetAt_39 rfl ?_
    refine zV_iadd d_St_meetAt_40 ?_
    refine zS_iald d_St_meetAt_41 (kSt3 h) rfl ⟨by omega, by omega⟩ ?_
    refine zV_aload_n d_St_meetAt_42 rfl ?_
    refine zS_getr (r := (t + 3)) d_St_meetAt_43 f_St_31 (kSt0 h) rfl rfl ?_
    refine zV_iload d_St_meetAt_46 rfl ?_
    refine zV_iload_n d_St_meetAt_48 rfl ?_
    refine zV_iadd d_St_meetAt_49 ?_
    refine zS_iald d_St_meetAt_50 (kSt3 h) rfl ⟨by omega, by omega⟩ ?_
    refine zV_icmp_eq d_St_meetAt_51 (by omega) (by omega) (fun c51 => ?_) (fun c51 => ?_)
    · refine zV_iconst d_St_meetAt_58 ?_
      exact zS_zret d_St_meetAt_59 rfl ⟨Nat.zero_le _, Nat.zero_le _⟩ (Or.inl rfl) (by refine ⟨?_, rfl⟩; first | rw [zb_t (by unfold mtP; omega)] | rw [zb_f (by unfold mtP; omega)])
    · refine zV_iconst d_St_meetAt_54 ?_
      refine zV_goto d_St_meetAt_55 ?_
      exact zS_zret d_St_meetAt_59 rfl ⟨Nat.zero_le _, Nat.zero_le _⟩ (Or.inr rfl) (by refine ⟨?_, rfl⟩; first | rw [zb_t (by unfold mtP; omega)] | rw [zb_f (by unfold mtP; omega)])
def pmQ (mem : zMem) (t p i j : Int) : Prop := mem (t + 4) i = 0 ∧ mem (t + 4) j = 0 ∧ mtP mem t p i j
noncomputable def pmR (mem : zMem) (t p i : Int) : Int := zsm (fun j => zb (pmQ mem t p i j)) (i - 0).toNat 0
noncomputable def pmA (mem : zMem) (t p : Int) : Int := zsm (pmR mem t p) (mem t 3 - 0).toNat 0
theorem s_St_pairsMeetingAt_l2 (mem : zMem) (t p i : Int) (h : isSt t) (hT : okT mem t) (hp : 0 ≤ p ∧ p < 12) (hi : 0 ≤ i ∧ i < mem t 3) (Q9 : zQ2) (q : Int) (kk : zS zT m_St_pairsMeetingAt (0, 0) 4 [some (2, t), some (0, p), some (0, q), some (0, i + 1), none] [] mem (zQs Q9)) : ∀ (j : Int) (acc : Int), (0 ≤ j) → (j ≤ i) → (acc + zsm (fun j => zb (pmQ mem t p i j)) (i - j).toNat j = q) → zS zT m_St_pairsMeetingAt (0, 0) 15 [some (2, t), some (0, p), some (0, acc), some (0, i), some (0, j)] [] mem (zQs (Q9)) := by
  intro j acc
  obtain ⟨k9, hk9⟩ : ∃ k : Nat, (i - j).toNat = k := ⟨_, rfl⟩
  induction k9 using Nat.strongRecOn generalizing j acc with
  | _ k9 ih =>
    intro i0 i1 i2
    obtain ⟨t1, t2, t3, t4, t5, t6⟩ := id hT
    have f1 := t6 i
    have f2 := t6 j i0
    refine zV_iload d_St_pairsMeetingAt_15 rfl ?_
    refine zV_iload_n d_St_pairsMeetingAt_17 rfl ?_
    refine zV_icmp_ge d_St_pairsMeetingAt_18 (by omega) (by omega) (fun c18 => ?_) (fun c18 => ?_)
    · refine zV_iinc (L' := [some (2, t), some (0, p), some (0, acc), some (0, (i + 1)), some (0, j)]) d_St_pairsMeetingAt_60 (by decide) rfl rfl ?_
      refine zV_goto d_St_pairsMeetingAt_63 ?_
      refine zV_forget (L' := [some (2, t), some (0, p), some (0, acc), some (0, (i + 1)), none]) (by simp [zle]) ?_
      have e9 : acc = q := by rw [← i2, zsm_e (n := i) (by omega), Int.add_zero]
      rw [e9]
      exact kk
    · refine zV_aload_n d_St_pairsMeetingAt_21 rfl ?_
      refine zS_getr (r := (t + 4)) d_St_pairsMeetingAt_22 f_St_34 (kSt0 h) rfl rfl ?_
      refine zV_iload_n d_St_pairsMeetingAt_25 rfl ?_
      refine zS_zald d_St_pairsMeetingAt_26 (kSt4 h) rfl ⟨by omega, by omega⟩ ?_
      refine zV_if_ne d_St_pairsMeetingAt_27 (by omega) (fun c27 => ?_) (fun c27 => ?_)
      · refine zV_iinc (L' := [some (2, t), some (0, p), some (0, acc), some (0, i), some (0, (j + 1))]) d_St_pairsMeetingAt_54 (by decide) rfl rfl ?_
        refine zV_goto d_St_pairsMeetingAt_57 ?_
        refine ih _ (by omega) _ _ rfl (by omega) (by omega) ?_
        rw [← i2, zsm_s (n := i) (i := j) (by omega)]
        first | rw [zb_t (show pmQ mem t p i j from ⟨by omega, by omega, c48⟩)] | rw [zb_f (show ¬ pmQ mem t p i j from fun z => c48 z.2.2)] | rw [zb_f (show ¬ pmQ mem t p i j from fun z => by have := z.1; have := z.2.1; omega)]
        omega
      · refine zV_aload_n d_St_pairsMeetingAt_30 rfl ?_
        refine zS_getr (r := (t + 4)) d_St_pairsMeetingAt_31 f_St_34 (kSt0 h) rfl rfl ?_
        refine zV_iload d_St_pairsMeetingAt_34 rfl ?_
        refine zS_zald d_St_pairsMeetingAt_36 (kSt4 h) rfl ⟨by omega, by omega⟩ ?_
        refine zV_if_ne d_St_pairsMeetingAt_37 (by omega) (fun c37 => ?_) (fun c37 => ?_)
        · refine zV_iinc (L' := [some (2, t), some (0, p), some (0, acc), some (0, i), some (0, (j + 1))]) d_St_pairsMeetingAt_54 (by decide) rfl rfl ?_
          refine zV_goto d_St_pairsMeetingAt_57 ?_
          refine ih _ (by omega) _ _ rfl (by omega) (by omega) ?_
          rw [← i2, zsm_s (n := i) (i := j) (by omega)]
          first | rw [zb_t (show pmQ mem t p i j from ⟨by omega, by omega, c48⟩)] | rw [zb_f (show ¬ pmQ mem t p i j from fun z => c48 z.2.2)] | rw [zb_f (show ¬ pmQ mem t p i j from fun z => by have := z.1; have := z.2.1; omega)]
          omega
        · refine zV_aload_n d_St_pairsMeetingAt_40 rfl ?_
          refine zV_iload_n d_St_pairsMeetingAt_41 rfl ?_
          refine zV_iload_n d_St_pairsMeetingAt_42 rfl ?_
          refine zV_iload d_St_pairsMeetingAt_43 rfl ?_
          refine zS_invvE (mt' := m_St_meetAt) (avs := [(0, p), (0, i), (0, j)]) (st := []) d_St_pairsMeetingAt_45 l_St_156 k_St_meetAt (kSt0 h) rfl rfl rfl rfl (s_St_meetAt mem t p i j h hT (by omega) (by omega) (by omega)) ?_
          show zS zT m_St_pairsMeetingAt (0, 0) 48 [some (2, t), some (0, p), some (0, acc), some (0, i), some (0, j)] [(0, (zb (mtP mem t p i j)))] mem _
          refine zV_ifb_eq d_St_pairsMeetingAt_48 (fun c48 => ?_) (fun c48 => ?_)
          · refine zV_iinc (L' := [some (2, t), some (0, p), some (0, acc), some (0, i), some (0, (j + 1))]) d_St_pairsMeetingAt_54 (by decide) rfl rfl ?_
            refine zV_goto d_St_pairsMeetingAt_57 ?_
            refine ih _ (by omega) _ _ rfl (by omega) (by omega) ?_
            rw [← i2, zsm_s (n := i) (i := j) (by omega)]
            first | rw [zb_t (show pmQ mem t p i j from ⟨by omega, by omega, c48⟩)] | rw [zb_f (show ¬ pmQ mem t p i j from fun z => c48 z.2.2)] | rw [zb_f (show ¬ pmQ mem t p i j from fun z => by have := z.1; have := z.2.1; omega)]
            omega
          · refine zV_iinc (L' := [some (2, t), some (0, p), some (0, (acc + 1)), some (0, i), some (0, j)]) d_St_pairsMeetingAt_51 (by decide) rfl rfl ?_
            refine zV_iinc (L' := [some (2, t), some (0, p), some (0, (acc + 1)), some (0, i), some (0, (j + 1))]) d_St_pairsMeetingAt_54 (by decide) rfl rfl ?_
            refine zV_goto d_St_pairsMeetingAt_57 ?_
            refine ih _ (by omega) _ _ rfl (by omega) (by omega) ?_
            rw [← i2, zsm_s (n := i) (i := j) (by omega)]
            first | rw [zb_t (show pmQ mem t p i j from ⟨by omega, by omega, c48⟩)] | rw [zb_f (show ¬ pmQ mem t p i j from fun z => c48 z.2.2)] | rw [zb_f (show ¬ pmQ mem t p i j from fun z => by have := z.1; have := z.2.1; omega)]
            omega
theorem s_St_pairsMeetingAt_l (mem : zMem) (t p : Int) (h : isSt t) (hT : okT mem t) (hp : 0 ≤ p ∧ p < 12) (q : Int) : ∀ (i : Int) (acc : Int), (0 ≤ i) → (i ≤ mem t 3) → (acc + zsm (pmR mem t p) (mem t 3 - i).toNat i = q) → zS zT m_St_pairsMeetingAt (0, 0) 4 [some (2, t), some (0, p), some (0, acc), some (0, i), none] [] mem (zQs (fun r m => r = some (0, q) ∧ m = mem)) := by
  intro i acc
  obtain ⟨k9, hk9⟩ : ∃ k : Nat, (mem t 3 - i).toNat = k := ⟨_, rfl⟩
  induction k9 using Nat.strongRecOn generalizing i acc with
  | _ k9 ih =>
    intro i0 i1 i2
    obtain ⟨t1, t2, t3, t4, t5, t6⟩ := id hT
    refine zV_iload_n d_St_pairsMeetingAt_4 rfl ?_
    refine zV_aload_n d_St_pairsMeetingAt_5 rfl ?_
    refine zS_get d_St_pairsMeetingAt_6 f_St_24 (kSt0 h) rfl ?_
    refine zV_icmp_ge d_St_pairsMeetingAt_9 (by omega) (by omega) (fun c9 => ?_) (fun c9 => ?_)
    · refine zV_iload_n d_St_pairsMeetingAt_66 rfl ?_
      exact zS_iret d_St_pairsMeetingAt_67 rfl ⟨Nat.zero_le _, Nat.zero_le _⟩ ⟨by rw [← i2, zsm_e (n := mem t 3) (by omega), Int.add_zero], rfl⟩
    · refine zV_iconst d_St_pairsMeetingAt_12 ?_
      refine zV_istore (L' := [some (2, t), some (0, p), some (0, acc), some (0, i), some (0, 0)]) d_St_pairsMeetingAt_13 (by decide) rfl ?_
      refine s_St_pairsMeetingAt_l2 mem t p i h hT hp (by omega) _ (acc + pmR mem t p i) ?_ 0 acc (by omega) (by omega) rfl
      refine ih _ (by omega) _ _ rfl (by omega) (by omega) ?_
      rw [← i2, zsm_s (n := mem t 3) (i := i) (by omega)]
      omega
theorem s_St_pairsMeetingAt (mem : zMem) (t p : Int) (h : isSt t) (hT : okT mem t) (hp : 0 ≤ p ∧ p < 12) : zF m_St_pairsMeetingAt [(2, t), (0, p)] mem (fun r m => r = some (0, pmA mem t p) ∧ m = mem) := by
  obtain ⟨t1, t2, t3, t4, t5, t6⟩ := id hT
  refine zF_of (by decide) (Nat.le_of_ble_eq_true rfl) ?_
  show zS zT m_St_pairsMeetingAt (0, 0) 0 [some (2, t), some (0, p), none, none, none] [] mem _
  refine zV_iconst d_St_pairsMeetingAt_0 ?_
  refine zV_istore_n (L' := [some (2, t), some (0, p), some (0, 0), none, none]) d_St_pairsMeetingAt_1 (by decide) rfl ?_
  refine zV_iconst d_St_pairsMeetingAt_2 ?_
  refine zV_istore_n (L' := [some (2, t), some (0, p), some (0, 0), some (0, 0), none]) d_St_pairsMeetingAt_3 (by decide) rfl ?_
  exact s_St_pairsMeetingAt_l mem t p h hT hp _ 0 0 (by omega) (by omega) (by rw [Int.zero_add]; rfl)
noncomputable def scB (mem : zMem) (t s x b : Int) : Int := cif (zff (fun c => mem (t + 4) c = 0 ∧ mem (t + 3) (4 * s + c) = x) (mem t 3 - 0).toNat 0 < mem t 3) (mem (t + 3) (4 * b + zff (fun c => mem (t + 4) c = 0 ∧ mem (t + 3) (4 * s + c) = x) (mem t 3 - 0).toNat 0)) 0
noncomputable def lwB (mem : zMem) (t s j b : Int) : Int := if j = 0 then 0 else scB mem t s (if j % 2 = 1 then j else j - 1) b
noncomputable def hiB (mem : zMem) (t s j b : Int) : Int := if j = mem (t + 2) s then mem (t + 2) b else scB mem t s (if j % 2 = 1 then j else j + 1) b
theorem s_St_sectionBeside_l (mem : zMem) (t s x b : Int) (h : isSt t) (hT : okT mem t) (hs : 0 ≤ s ∧ s < 25) (hx : I32 x) (hb : 0 ≤ b ∧ b < 25) (q : Int) : ∀ (i : Int), (0 ≤ i) → (i ≤ mem t 3) → (zff (fun c => mem (t + 4) c = 0 ∧ mem (t + 3) (4 * s + c) = x) (mem t 3 - i).toNat i = q) → zS zT m_St_sectionBeside (0, 0) 3 [some (2, t), some (0, s), some (0, x), some (0, b), some (0, i)] [] mem (zQs (fun r m => r = some (0, cif (q < mem t 3) (mem (t + 3) (4 * b + q)) 0) ∧ m = mem)) := by
  intro i
  obtain ⟨k9, hk9⟩ : ∃ k : Nat, (mem t 3 - i).toNat = k := ⟨_, rfl⟩
  induction k9 using Nat.strongRecOn generalizing i with
  | _ k9 ih =>
    intro i0 i1 i2
    obtain ⟨t1, t2, t3, t4, t5, t6⟩ := id hT
    have f1 := t6 i i0
    have f2 := t5 (4 * s + i) (by omega)
    have f3 := t5 (4 * b + i) (by omega)
    refine zV_iload d_St_sectionBeside_3 rfl ?_
    refine zV_aload_n d_St_sectionBeside_5 rfl ?_
    refine zS_get d_St_sectionBeside_6 f_St_24 (kSt0 h) rfl ?_
    refine zV_icmp_ge d_St_sectionBeside_9 (by omega) (by omega) (fun c9 => ?_) (fun c9 => ?_)
    · refine zV_iconst d_St_sectionBeside_55 ?_
      exact zS_iret d_St_sectionBeside_56 rfl ⟨Nat.zero_le _, Nat.zero_le _⟩ ⟨by rw [← i2, zff_e (n := mem t 3) (by omega), cif_f (by omega)], rfl⟩
    · refine zV_aload_n d_St_sectionBeside_12 rfl ?_
      refine zS_getr (r := (t + 4)) d_St_sectionBeside_13 f_St_34 (kSt0 h) rfl rfl ?_
      refine zV_iload d_St_sectionBeside_16 rfl ?_
      refine zS_zald d_St_sectionBeside_18 (kSt4 h) rfl ⟨by omega, by omega⟩ ?_
      refine zV_if_ne d_St_sectionBeside_19 (by omega) (fun c19 => ?_) (fun c19 => ?_)
      · refine zV_iinc (L' := [some (2, t), some (0, s), some (0, x), some (0, b), some (0, (i + 1))]) d_St_sectionBeside_49 (by decide) rfl rfl ?_
        refine zV_goto d_St_sectionBeside_52 ?_
        refine ih _ (by omega) _ rfl (by omega) (by omega) ?_
        rw [← i2, zff_f (n := mem t 3) (i := i) (by omega) (by omega)]
      · refine zV_aload_n d_St_sectionBeside_22 rfl ?_
        refine zS_getr (r := (t + 3)) d_St_sectionBeside_23 f_St_31 (kSt0 h) rfl rfl ?_
        refine zV_iconst d_St_sectionBeside_26 ?_
        refine zV_iload_n d_St_sectionBeside_27 rfl ?_
        refine zV_imul d_St_sectionBeside_28 ?_
        refine zV_iload d_St_sectionBeside_29 rfl ?_
        refine zV_iadd d_St_sectionBeside_31 ?_
        refine zS_iald d_St_sectionBeside_32 (kSt3 h) rfl ⟨by omega, by omega⟩ ?_
        refine zV_iload_n d_St_sectionBeside_33 rfl ?_
        refine zV_icmp_ne d_St_sectionBeside_34 (by omega) (by omega) (fun c34 => ?_) (fun c34 => ?_)
        · refine zV_iinc (L' := [some (2, t), some (0, s), some (0, x), some (0, b), some (0, (i + 1))]) d_St_sectionBeside_49 (by decide) rfl rfl ?_
          refine zV_goto d_St_sectionBeside_52 ?_
          refine ih _ (by omega) _ rfl (by omega) (by omega) ?_
          rw [← i2, zff_f (n := mem t 3) (i := i) (by omega) (by omega)]
        · refine zV_aload_n d_St_sectionBeside_37 rfl ?_
          refine zS_getr (r := (t + 3)) d_St_sectionBeside_38 f_St_31 (kSt0 h) rfl rfl ?_
          refine zV_iconst d_St_sectionBeside_41 ?_
          refine zV_iload_n d_St_sectionBeside_42 rfl ?_
          refine zV_imul d_St_sectionBeside_43 ?_
          refine zV_iload d_St_sectionBeside_44 rfl ?_
          refine zV_iadd d_St_sectionBeside_46 ?_
          refine zS_iald d_St_sectionBeside_47 (kSt3 h) rfl ⟨by omega, by omega⟩ ?_
          exact zS_iret d_St_sectionBeside_48 rfl ⟨Nat.zero_le _, Nat.zero_le _⟩ ⟨by rw [← i2, zff_t (n := mem t 3) (by omega) ⟨by omega, by omega⟩, cif_t (by omega)], rfl⟩
theorem s_St_sectionBeside (mem : zMem) (t s x b : Int) (h : isSt t) (hT : okT mem t) (hs : 0 ≤ s ∧ s < 25) (hx : I32 x) (hb : 0 ≤ b ∧ b < 25) : zF m_St_sectionBeside [(2, t), (0, s), (0, x), (0, b)] mem (fun r m => r = some (0, scB mem t s x b) ∧ m = mem) := by
  obtain ⟨t1, t2, t3, t4, t5, t6⟩ := id hT
  refine zF_of (by decide) (Nat.le_of_ble_eq_true rfl) ?_
  show zS zT m_St_sectionBeside (0, 0) 0 [some (2, t), some (0, s), some (0, x), some (0, b), none] [] mem _
  refine zV_iconst d_St_sectionBeside_0 ?_
  refine zV_istore (L' := [some (2, t), some (0, s), some (0, x), some (0, b), some (0, 0)]) d_St_sectionBeside_1 (by decide) rfl ?_
  exact s_St_sectionBeside_l mem t s x b h hT hs hx hb _ 0 (by omega) (by omega) rfl
theorem s_St_lowestBeside (mem : zMem) (t s j b : Int) (h : isSt t) (hT : okT mem t) (hs : 0 ≤ s ∧ s < 25) (hj : 0 ≤ j ∧ j < 100) (hb : 0 ≤ b ∧ b < 25) : zF m_St_lowestBeside [(2, t), (0, s), (0, j), (0, b)] mem (fun r m => r = some (0, lwB mem t s j b) ∧ m = mem) := by
  refine zF_of (by decide) (Nat.le_of_ble_eq_true rfl) ?_
  show zS zT m_St_lowestBeside (0, 0) 0 [some (2, t), some (0, s), some (0, j), some (0, b)] [] mem _
  refine zV_iload_n d_St_lowestBeside_0 rfl ?_
  refine zV_if_ne d_St_lowestBeside_1 (by omega) (fun c1 => ?_) (fun c1 => ?_)
  · refine zV_aload_n d_St_lowestBeside_6 rfl ?_
    refine zV_iload_n d_St_lowestBeside_7 rfl ?_
    refine zV_iload_n d_St_lowestBeside_8 rfl ?_
    refine zV_iconst d_St_lowestBeside_9 ?_
    refine zV_irem_p d_St_lowestBeside_10 (by omega) (by omega) ?_
    refine zV_iconst d_St_lowestBeside_11 ?_
    refine zV_icmp_ne d_St_lowestBeside_12 (by omega) (by omega) (fun c12 => ?_) (fun c12 => ?_)
    · refine zV_iload_n d_St_lowestBeside_19 rfl ?_
      refine zV_iconst d_St_lowestBeside_20 ?_
      refine zV_isub d_St_lowestBeside_21 ?_
      refine zV_iload_n d_St_lowestBeside_22 rfl ?_
      refine zS_invvE (mt' := m_St_sectionBeside) (avs := [(0, s), (0, (j - 1)), (0, b)]) (st := []) d_St_lowestBeside_23 l_St_170 k_St_sectionBeside (kSt0 h) rfl rfl rfl rfl (s_St_sectionBeside mem t s (j - 1) b h hT (by omega) (by omega) (by omega)) ?_
      show zS zT m_St_lowestBeside (0, 0) 26 [some (2, t), some (0, s), some (0, j), some (0, b)] [(0, (scB mem t s (j - 1) b))] mem _
      exact zS_iret d_St_lowestBeside_26 rfl ⟨Nat.zero_le _, Nat.zero_le _⟩ (by refine ⟨?_, rfl⟩; unfold lwB; first | rw [if_pos (by omega)] | (rw [if_neg (by omega)]; first | rw [if_pos (by omega)] | rw [if_neg (by omega)]))
    · refine zV_iload_n d_St_lowestBeside_15 rfl ?_
      refine zV_goto d_St_lowestBeside_16 ?_
      refine zV_iload_n d_St_lowestBeside_22 rfl ?_
      refine zS_invvE (mt' := m_St_sectionBeside) (avs := [(0, s), (0, j), (0, b)]) (st := []) d_St_lowestBeside_23 l_St_170 k_St_sectionBeside (kSt0 h) rfl rfl rfl rfl (s_St_sectionBeside mem t s j b h hT (by omega) (by omega) (by omega)) ?_
      show zS zT m_St_lowestBeside (0, 0) 26 [some (2, t), some (0, s), some (0, j), some (0, b)] [(0, (scB mem t s j b))] mem _
      exact zS_iret d_St_lowestBeside_26 rfl ⟨Nat.zero_le _, Nat.zero_le _⟩ (by refine ⟨?_, rfl⟩; unfold lwB; first | rw [if_pos (by omega)] | (rw [if_neg (by omega)]; first | rw [if_pos (by omega)] | rw [if_neg (by omega)]))
  · refine zV_iconst d_St_lowestBeside_4 ?_
    exact zS_iret d_St_lowestBeside_5 rfl ⟨Nat.zero_le _, Nat.zero_le _⟩ (by refine ⟨?_, rfl⟩; unfold lwB; first | rw [if_pos (by omega)] | (rw [if_neg (by omega)]; first | rw [if_pos (by omega)] | rw [if_neg (by omega)]))
theorem s_St_highestBeside (mem : zMem) (t s j b : Int) (h : isSt t) (hT : okT mem t) (hs : 0 ≤ s ∧ s < 25) (hj : 0 ≤ j ∧ j < 100) (hb : 0 ≤ b ∧ b < 25) : zF m_St_highestBeside [(2, t), (0, s), (0, j), (0, b)] mem (fun r m => r = some (0, hiB mem t s j b) ∧ m = mem) := by
  obtain ⟨t1, t2, t3, t4, t5, t6⟩ := id hT
  have f1 := t4 s hs.1 hs.2
  refine zF_of (by decide) (Nat.le_of_ble_eq_true rfl) ?_
  show zS zT m_St_highestBeside (0, 0) 0 [some (2, t), some (0, s), some (0, j), some (0, b)] [] mem _
  refine zV_iload_n d_St_highestBeside_0 rfl ?_
  refine zV_aload_n d_St_highestBeside_1 rfl ?_
  refine zS_getr (r := (t + 2)) d_St_highestBeside_2 f_St_27 (kSt0 h) rfl rfl ?_
  refine zV_iload_n d_St_highestBeside_5 rfl ?_
  refine zS_iald d_St_highestBeside_6 (kSt2 h) rfl ⟨by omega, by omega⟩ ?_
  refine zV_icmp_ne d_St_highestBeside_7 (by omega) (by omega) (fun c7 => ?_) (fun c7 => ?_)
  · refine zV_aload_n d_St_highestBeside_17 rfl ?_
    refine zV_iload_n d_St_highestBeside_18 rfl ?_
    refine zV_iload_n d_St_highestBeside_19 rfl ?_
    refine zV_iconst d_St_highestBeside_20 ?_
    refine zV_irem_p d_St_highestBeside_21 (by omega) (by omega) ?_
    refine zV_iconst d_St_highestBeside_22 ?_
    refine zV_icmp_ne d_St_highestBeside_23 (by omega) (by omega) (fun c23 => ?_) (fun c23 => ?_)
    · refine zV_iload_n d_St_highestBeside_30 rfl ?_
      refine zV_iconst d_St_highestBeside_31 ?_
      refine zV_iadd d_St_highestBeside_32 ?_
      refine zV_iload_n d_St_highestBeside_33 rfl ?_
      refine zS_invvE (mt' := m_St_sectionBeside) (avs := [(0, s), (0, (j + 1)), (0, b)]) (st := []) d_St_highestBeside_34 l_St_170 k_St_sectionBeside (kSt0 h) rfl rfl rfl rfl (s_St_sectionBeside mem t s (j + 1) b h hT (by omega) (by omega) (by omega)) ?_
      show zS zT m_St_highestBeside (0, 0) 37 [some (2, t), some (0, s), some (0, j), some (0, b)] [(0, (scB mem t s (j + 1) b))] mem _
      exact zS_iret d_St_highestBeside_37 rfl ⟨Nat.zero_le _, Nat.zero_le _⟩ (by refine ⟨?_, rfl⟩; unfold hiB; first | rw [if_pos (by omega)] | (rw [if_neg (by omega)]; first | rw [if_pos (by omega)] | rw [if_neg (by omega)]))
    · refine zV_iload_n d_St_highestBeside_26 rfl ?_
      refine zV_goto d_St_highestBeside_27 ?_
      refine zV_iload_n d_St_highestBeside_33 rfl ?_
      refine zS_invvE (mt' := m_St_sectionBeside) (avs := [(0, s), (0, j), (0, b)]) (st := []) d_St_highestBeside_34 l_St_170 k_St_sectionBeside (kSt0 h) rfl rfl rfl rfl (s_St_sectionBeside mem t s j b h hT (by omega) (by omega) (by omega)) ?_
      show zS zT m_St_highestBeside (0, 0) 37 [some (2, t), some (0, s), some (0, j), some (0, b)] [(0, (scB mem t s j b))] mem _
      exact zS_iret d_St_highestBeside_37 rfl ⟨Nat.zero_le _, Nat.zero_le _⟩ (by refine ⟨?_, rfl⟩; unfold hiB; first | rw [if_pos (by omega)] | (rw [if_neg (by omega)]; first | rw [if_pos (by omega)] | rw [if_neg (by omega)]))
  · refine zV_aload_n d_St_highestBeside_10 rfl ?_
    refine zS_getr (r := (t + 2)) d_St_highestBeside_11 f_St_27 (kSt0 h) rfl rfl ?_
    refine zV_iload_n d_St_highestBeside_14 rfl ?_
    refine zS_iald d_St_highestBeside_15 (kSt2 h) rfl ⟨by omega, by omega⟩ ?_
    exact zS_iret d_St_highestBeside_16 rfl ⟨Nat.zero_le _, Nat.zero_le _⟩ (by refine ⟨?_, rfl⟩; unfold hiB; first | rw [if_pos (by omega)] | (rw [if_neg (by omega)]; first | rw [if_pos (by omega)] | rw [if_neg (by omega)]))
