/-! the plane's own methods, the short ones -/
theorem s_Cp_isKind (mem : zMem) (k : Int) (hk : I32 k) : zF m_Cp_isKind [(0, k)] mem (fun r m => r = some (0, zb (0 ≤ k ∧ k < 5)) ∧ m = mem) := by
  refine zF_of (by decide) (Nat.le_of_ble_eq_true rfl) ?_
  show zS zT m_Cp_isKind (0, 0) 0 [some (0, k)] [] mem _
  refine zV_iload_n d_Cp_isKind_0 rfl ?_
  refine zV_if_lt d_Cp_isKind_1 (by omega) (fun c1 => ?_) (fun c1 => ?_)
  · refine zV_iconst d_Cp_isKind_13 ?_
    exact zS_zret d_Cp_isKind_14 rfl ⟨Nat.zero_le _, Nat.zero_le _⟩ (Or.inl rfl) (by refine ⟨?_, rfl⟩; first | rw [zb_t (by omega)] | rw [zb_f (by omega)])
  · refine zV_iload_n d_Cp_isKind_4 rfl ?_
    refine zV_iconst d_Cp_isKind_5 ?_
    refine zV_icmp_ge d_Cp_isKind_6 (by omega) (by omega) (fun c6 => ?_) (fun c6 => ?_)
    · refine zV_iconst d_Cp_isKind_13 ?_
      exact zS_zret d_Cp_isKind_14 rfl ⟨Nat.zero_le _, Nat.zero_le _⟩ (Or.inl rfl) (by refine ⟨?_, rfl⟩; first | rw [zb_t (by omega)] | rw [zb_f (by omega)])
    · refine zV_iconst d_Cp_isKind_9 ?_
      refine zV_goto d_Cp_isKind_10 ?_
      exact zS_zret d_Cp_isKind_14 rfl ⟨Nat.zero_le _, Nat.zero_le _⟩ (Or.inr rfl) (by refine ⟨?_, rfl⟩; first | rw [zb_t (by omega)] | rw [zb_f (by omega)])
theorem s_Cp_isNear (mem : zMem) (k : Int) (hk : I32 k) : zF m_Cp_isNear [(0, k)] mem (fun r m => r = some (0, zb (-9 ≤ k ∧ k ≤ 9)) ∧ m = mem) := by
  refine zF_of (by decide) (Nat.le_of_ble_eq_true rfl) ?_
  show zS zT m_Cp_isNear (0, 0) 0 [some (0, k)] [] mem _
  refine zV_iload_n d_Cp_isNear_0 rfl ?_
  refine zV_bipush d_Cp_isNear_1 ?_
  refine zV_icmp_lt d_Cp_isNear_3 (by omega) (by omega) (fun c3 => ?_) (fun c3 => ?_)
  · refine zV_iconst d_Cp_isNear_16 ?_
    exact zS_zret d_Cp_isNear_17 rfl ⟨Nat.zero_le _, Nat.zero_le _⟩ (Or.inl rfl) (by refine ⟨?_, rfl⟩; first | rw [zb_t (by omega)] | rw [zb_f (by omega)])
  · refine zV_iload_n d_Cp_isNear_6 rfl ?_
    refine zV_bipush d_Cp_isNear_7 ?_
    refine zV_icmp_gt d_Cp_isNear_9 (by omega) (by omega) (fun c9 => ?_) (fun c9 => ?_)
    · refine zV_iconst d_Cp_isNear_16 ?_
      exact zS_zret d_Cp_isNear_17 rfl ⟨Nat.zero_le _, Nat.zero_le _⟩ (Or.inl rfl) (by refine ⟨?_, rfl⟩; first | rw [zb_t (by omega)] | rw [zb_f (by omega)])
    · refine zV_iconst d_Cp_isNear_12 ?_
      refine zV_goto d_Cp_isNear_13 ?_
      exact zS_zret d_Cp_isNear_17 rfl ⟨Nat.zero_le _, Nat.zero_le _⟩ (Or.inr rfl) (by refine ⟨?_, rfl⟩; first | rw [zb_t (by omega)] | rw [zb_f (by omega)])
theorem s_Cp_isBit (mem : zMem) (k : Int) (hk : I32 k) : zF m_Cp_isBit [(0, k)] mem (fun r m => r = some (0, zb (k = 0 ∨ k = 1)) ∧ m = mem) := by
  refine zF_of (by decide) (Nat.le_of_ble_eq_true rfl) ?_
  show zS zT m_Cp_isBit (0, 0) 0 [some (0, k)] [] mem _
  refine zV_iload_n d_Cp_isBit_0 rfl ?_
  refine zV_if_eq d_Cp_isBit_1 (by omega) (fun c1 => ?_) (fun c1 => ?_)
  · refine zV_iconst d_Cp_isBit_9 ?_
    refine zV_goto d_Cp_isBit_10 ?_
    exact zS_zret d_Cp_isBit_14 rfl ⟨Nat.zero_le _, Nat.zero_le _⟩ (Or.inr rfl) (by refine ⟨?_, rfl⟩; first | rw [zb_t (by omega)] | rw [zb_f (by omega)])
  · refine zV_iload_n d_Cp_isBit_4 rfl ?_
    refine zV_iconst d_Cp_isBit_5 ?_
    refine zV_icmp_ne d_Cp_isBit_6 (by omega) (by omega) (fun c6 => ?_) (fun c6 => ?_)
    · refine zV_iconst d_Cp_isBit_13 ?_
      exact zS_zret d_Cp_isBit_14 rfl ⟨Nat.zero_le _, Nat.zero_le _⟩ (Or.inl rfl) (by refine ⟨?_, rfl⟩; first | rw [zb_t (by omega)] | rw [zb_f (by omega)])
    · refine zV_iconst d_Cp_isBit_9 ?_
      refine zV_goto d_Cp_isBit_10 ?_
      exact zS_zret d_Cp_isBit_14 rfl ⟨Nat.zero_le _, Nat.zero_le _⟩ (Or.inr rfl) (by refine ⟨?_, rfl⟩; first | rw [zb_t (by omega)] | rw [zb_f (by omega)])
theorem s_Cp_blank (mem : zMem) : zF m_Cp_blank [(2, 0)] mem (fun r m => r = some (0, mem 1 1) ∧ m = zup mem 1 1 0) := by
  refine zF_of (by decide) (Nat.le_of_ble_eq_true rfl) ?_
  show zS zT m_Cp_blank (0, 0) 0 [some (2, 0), none] [] mem _
  refine zV_aload_n d_Cp_blank_0 rfl ?_
  refine zS_getr (r := 1) d_Cp_blank_1 f_Cp_12 rfl rfl rfl ?_
  refine zS_get d_Cp_blank_4 f_Cp_95 rfl rfl ?_
  refine zV_istore_n (L' := [some (2, 0), some (0, (mem 1 1))]) d_Cp_blank_7 (by decide) rfl ?_
  refine zV_aload_n d_Cp_blank_8 rfl ?_
  refine zS_getr (r := 1) d_Cp_blank_9 f_Cp_12 rfl rfl rfl ?_
  refine zV_iconst d_Cp_blank_12 ?_
  refine zS_puti d_Cp_blank_13 f_Cp_95 rfl ⟨rfl, rfl⟩ rfl ?_
  refine zV_iload_n d_Cp_blank_16 rfl ?_
  exact zS_iret d_Cp_blank_17 rfl ⟨Nat.zero_le _, Nat.zero_le _⟩ ⟨rfl, rfl⟩
theorem s_Cp_forget (mem : zMem) : zF m_Cp_forget [(2, 0)] mem (fun r m => r = some (0, mem 21 4) ∧ m = zup mem 21 4 0) := by
  refine zF_of (by decide) (Nat.le_of_ble_eq_true rfl) ?_
  show zS zT m_Cp_forget (0, 0) 0 [some (2, 0), none] [] mem _
  refine zV_aload_n d_Cp_forget_0 rfl ?_
  refine zS_getr (r := 21) d_Cp_forget_1 f_Cp_32 rfl rfl rfl ?_
  refine zS_get d_Cp_forget_4 f_Cp_118 rfl rfl ?_
  refine zV_istore_n (L' := [some (2, 0), some (0, (mem 21 4))]) d_Cp_forget_7 (by decide) rfl ?_
  refine zV_aload_n d_Cp_forget_8 rfl ?_
  refine zS_getr (r := 21) d_Cp_forget_9 f_Cp_32 rfl rfl rfl ?_
  refine zV_iconst d_Cp_forget_12 ?_
  refine zS_puti d_Cp_forget_13 f_Cp_118 rfl ⟨rfl, rfl⟩ rfl ?_
  refine zV_iload_n d_Cp_forget_16 rfl ?_
  exact zS_iret d_Cp_forget_17 rfl ⟨Nat.zero_le _, Nat.zero_le _⟩ ⟨rfl, rfl⟩
theorem s_Cp_fault (mem : zMem) (hn : 0 ≤ mem 1 1 ∧ mem 1 1 ≤ 24) (hc : ∀ i, 0 ≤ i → i < mem 1 1 → 0 ≤ mem 2 i ∧ mem 2 i ≤ 126) : zF m_Cp_fault [(2, 0)] mem (fun r m => r = some (0, ffI (mem 2) (mem 1 1)) ∧ m = mem) := by
  refine zF_of (by decide) (Nat.le_of_ble_eq_true rfl) ?_
  show zS zT m_Cp_fault (0, 0) 0 [some (2, 0)] [] mem _
  refine zV_aload_n d_Cp_fault_0 rfl ?_
  refine zS_getr (r := 1) d_Cp_fault_1 f_Cp_12 rfl rfl rfl ?_
  refine zS_invvE (mt' := m_Pa_firstFault) (avs := []) (st := []) d_Cp_fault_4 l_Cp_98 k_Pa_firstFault rfl rfl rfl rfl rfl (s_Pa_firstFault mem hn hc) ?_
  show zS zT m_Cp_fault (0, 0) 7 [some (2, 0)] [(0, (ffI (mem 2) (mem 1 1)))] mem _
  exact zS_iret d_Cp_fault_7 rfl ⟨Nat.zero_le _, Nat.zero_le _⟩ ⟨rfl, rfl⟩
theorem s_Cp_dice (mem : zMem) (v : Int) (hv : I32 v) (h1 : 0 ≤ mem 77 0 ∧ mem 77 0 < 2147483648) : zF m_Cp_dice [(2, 0), (0, v)] mem (fun r m => ((1 ≤ v ∧ v ≤ 1000) ∧ r = some (0, (1103515245 * mem 77 0 + 12345) % 2147483648 / 65536 % v) ∧ m = zup mem 77 0 ((1103515245 * mem 77 0 + 12345) % 2147483648)) ∨ (¬ (1 ≤ v ∧ v ≤ 1000) ∧ r = some (0, -102) ∧ m = mem)) := by
  refine zF_of (by decide) (Nat.le_of_ble_eq_true rfl) ?_
  show zS zT m_Cp_dice (0, 0) 0 [some (2, 0), some (0, v)] [] mem _
  refine zV_iload_n d_Cp_dice_0 rfl ?_
  refine zV_iconst d_Cp_dice_1 ?_
  refine zV_icmp_lt d_Cp_dice_2 (by omega) (by omega) (fun c2 => ?_) (fun c2 => ?_)
  · refine zV_bipush d_Cp_dice_12 ?_
    exact zS_iret d_Cp_dice_14 rfl ⟨Nat.zero_le _, Nat.zero_le _⟩ (Or.inr ⟨by omega, rfl, rfl⟩)
  · refine zV_iload_n d_Cp_dice_5 rfl ?_
    refine zV_sipush d_Cp_dice_6 ?_
    refine zV_icmp_le d_Cp_dice_9 (by omega) (by omega) (fun c9 => ?_) (fun c9 => ?_)
    · refine zV_aload_n d_Cp_dice_15 rfl ?_
      refine zS_getr (r := 77) d_Cp_dice_16 f_Cp_66 rfl rfl rfl ?_
      refine zV_iload_n d_Cp_dice_19 rfl ?_
      refine zS_invvE (mt' := m_Di_next) (avs := [(0, v)]) (st := []) d_Cp_dice_20 l_Cp_234 k_Di_next rfl rfl rfl rfl rfl (s_Di_next mem v h1 ⟨by omega, by omega⟩) ?_
      show zS zT m_Cp_dice (0, 0) 23 [some (2, 0), some (0, v)] [(0, ((1103515245 * mem 77 0 + 12345) % 2147483648 / 65536 % v))] (zup mem 77 0 ((1103515245 * mem 77 0 + 12345) % 2147483648)) _
      exact zS_iret d_Cp_dice_23 rfl ⟨Nat.zero_le _, Nat.zero_le _⟩ (Or.inl ⟨⟨by omega, by omega⟩, rfl, rfl⟩)
    · refine zV_bipush d_Cp_dice_12 ?_
      exact zS_iret d_Cp_dice_14 rfl ⟨Nat.zero_le _, Nat.zero_le _⟩ (Or.inr ⟨by omega, rfl, rfl⟩)
theorem s_Cp_latest (mem : zMem) (v : Int) (hv : I32 v) (h1 : 0 ≤ mem 78 1 ∧ mem 78 1 < 8) (h2 : 0 ≤ mem 78 2 ∧ mem 78 2 ≤ 8) : zF m_Cp_latest [(2, 0), (0, v)] mem (fun r m => r = some (0, if 0 ≤ v ∧ v < mem 78 2 then mem 79 ((mem 78 1 - 1 - v) % 8) else -101) ∧ m = mem) := by
  refine zF_of (by decide) (Nat.le_of_ble_eq_true rfl) ?_
  show zS zT m_Cp_latest (0, 0) 0 [some (2, 0), some (0, v)] [] mem _
  refine zV_iload_n d_Cp_latest_0 rfl ?_
  refine zV_if_lt d_Cp_latest_1 (by omega) (fun c1 => ?_) (fun c1 => ?_)
  · refine zV_bipush d_Cp_latest_15 ?_
    refine zV_goto d_Cp_latest_17 ?_
    exact zS_iret d_Cp_latest_28 rfl ⟨Nat.zero_le _, Nat.zero_le _⟩ (by refine ⟨?_, rfl⟩; first | rw [if_pos (by omega)] | rw [if_neg (by omega)])
  · refine zV_iload_n d_Cp_latest_4 rfl ?_
    refine zV_aload_n d_Cp_latest_5 rfl ?_
    refine zS_getr (r := 78) d_Cp_latest_6 f_Cp_73 rfl rfl rfl ?_
    refine zS_get d_Cp_latest_9 f_Cp_237 rfl rfl ?_
    refine zV_icmp_lt d_Cp_latest_12 (by omega) (by omega) (fun c12 => ?_) (fun c12 => ?_)
    · refine zV_aload_n d_Cp_latest_20 rfl ?_
      refine zS_getr (r := 78) d_Cp_latest_21 f_Cp_73 rfl rfl rfl ?_
      refine zV_iload_n d_Cp_latest_24 rfl ?_
      refine zS_invvE (mt' := m_Ri_back) (avs := [(0, v)]) (st := []) d_Cp_latest_25 l_Cp_238 k_Ri_back rfl rfl rfl rfl rfl (s_Ri_back mem v h1 ⟨by omega, by omega⟩) ?_
      show zS zT m_Cp_latest (0, 0) 28 [some (2, 0), some (0, v)] [(0, (mem 79 ((mem 78 1 - 1 - v) % 8)))] mem _
      exact zS_iret d_Cp_latest_28 rfl ⟨Nat.zero_le _, Nat.zero_le _⟩ (by refine ⟨?_, rfl⟩; first | rw [if_pos (by omega)] | rw [if_neg (by omega)])
    · refine zV_bipush d_Cp_latest_15 ?_
      refine zV_goto d_Cp_latest_17 ?_
      exact zS_iret d_Cp_latest_28 rfl ⟨Nat.zero_le _, Nat.zero_le _⟩ (by refine ⟨?_, rfl⟩; first | rw [if_pos (by omega)] | rw [if_neg (by omega)])
theorem s_Cp_stack (mem : zMem) (v : Int) (hv : I32 v) (hT : okT mem 31) : zF m_Cp_stack [(2, 0), (0, v)] mem (fun r m => r = some (0, if 0 ≤ v ∧ v < mem 31 2 then mem 33 v + 1 else -101) ∧ m = mem) := by
  have t2 := hT.2.1
  refine zF_of (by decide) (Nat.le_of_ble_eq_true rfl) ?_
  show zS zT m_Cp_stack (0, 0) 0 [some (2, 0), some (0, v)] [] mem _
  refine zV_aload_n d_Cp_stack_0 rfl ?_
  refine zS_getr (r := 31) d_Cp_stack_1 f_Cp_42 rfl rfl rfl ?_
  refine zV_iload_n d_Cp_stack_4 rfl ?_
  refine zS_invvE (mt' := m_St_has) (avs := [(0, v)]) (st := []) d_Cp_stack_5 l_Cp_179 k_St_has rfl rfl rfl rfl rfl (s_St_has mem 31 v (Or.inl rfl) (by omega) (by omega)) ?_
  show zS zT m_Cp_stack (0, 0) 8 [some (2, 0), some (0, v)] [(0, (zb (0 ≤ v ∧ v < mem 31 2)))] mem _
  refine zV_ifb_eq d_Cp_stack_8 (fun c8 => ?_) (fun c8 => ?_)
  · refine zV_bipush d_Cp_stack_25 ?_
    exact zS_iret d_Cp_stack_27 rfl ⟨Nat.zero_le _, Nat.zero_le _⟩ (by refine ⟨?_, rfl⟩; first | rw [if_pos (by omega)] | rw [if_neg (by omega)])
  · refine zV_aload_n d_Cp_stack_11 rfl ?_
    refine zS_getr (r := 31) d_Cp_stack_12 f_Cp_42 rfl rfl rfl ?_
    refine zS_getr (r := 33) d_Cp_stack_15 f_Cp_180 rfl rfl rfl ?_
    refine zV_iload_n d_Cp_stack_18 rfl ?_
    refine zS_iald d_Cp_stack_19 rfl rfl ⟨by omega, by omega⟩ ?_
    refine zV_iconst d_Cp_stack_20 ?_
    refine zV_iadd d_Cp_stack_21 ?_
    refine zV_goto d_Cp_stack_22 ?_
    exact zS_iret d_Cp_stack_27 rfl ⟨Nat.zero_le _, Nat.zero_le _⟩ (by refine ⟨?_, rfl⟩; first | rw [if_pos (by omega)] | rw [if_neg (by omega)])
theorem s_Cp_as (mem : zMem) (i k : Int) (hi : I32 i) (hk : I32 k) (hK : rwK mem 3) : zF m_Cp_as [(2, 0), (0, i), (0, k)] mem (fun r m => r = some (0, if 0 ≤ i ∧ i < mem 3 1 then (if 0 ≤ k ∧ k < 5 then (if k = 0 ∨ k = mem (3 + 2 + i) 0 ∨ (k = 1 ∧ mem (3 + 2 + i) 0 = 2) then i else -1) else -102) else -101) ∧ m = mem) := by
  have k1 := hK.1
  refine zF_of (by decide) (Nat.le_of_ble_eq_true rfl) ?_
  show zS zT m_Cp_as (0, 0) 0 [some (2, 0), some (0, i), some (0, k)] [] mem _
  refine zV_aload_n d_Cp_as_0 rfl ?_
  refine zS_getr (r := 3) d_Cp_as_1 f_Cp_19 rfl rfl rfl ?_
  refine zV_iload_n d_Cp_as_4 rfl ?_
  refine zS_invvE (mt' := m_Rw_has) (avs := [(0, i)]) (st := []) d_Cp_as_5 l_Cp_123 k_Rw_has rfl rfl rfl rfl rfl (s_Rw_has mem 3 i (Or.inl rfl) (by omega) (by omega)) ?_
  show zS zT m_Cp_as (0, 0) 8 [some (2, 0), some (0, i), some (0, k)] [(0, (zb (0 ≤ i ∧ i < mem 3 1)))] mem _
  refine zV_ifb_ne d_Cp_as_8 (fun c8 => ?_) (fun c8 => ?_)
  · refine zV_iload_n d_Cp_as_14 rfl ?_
    refine zS_invsE (mt' := m_Cp_isKind) (avs := [(0, k)]) (st := []) d_Cp_as_15 l_Cp_151 k_Cp_isKind rfl rfl rfl rfl (s_Cp_isKind mem k (by omega)) ?_
    show zS zT m_Cp_as (0, 0) 18 [some (2, 0), some (0, i), some (0, k)] [(0, (zb (0 ≤ k ∧ k < 5)))] mem _
    refine zV_ifb_ne d_Cp_as_18 (fun c18 => ?_) (fun c18 => ?_)
    · refine zV_aload_n d_Cp_as_24 rfl ?_
      refine zS_getr (r := 3) d_Cp_as_25 f_Cp_19 rfl rfl rfl ?_
      refine zS_getr (r := 4) d_Cp_as_28 f_Cp_126 rfl rfl rfl ?_
      refine zV_iload_n d_Cp_as_31 rfl ?_
      refine zS_ald15 (r := (3 + 2 + i)) d_Cp_as_32 rfl rfl ⟨by omega, by omega⟩ (by omega) ?_
      refine zV_iload_n d_Cp_as_33 rfl ?_
      refine zS_invvE (mt' := m_Cu_isSuch) (avs := [(0, k)]) (st := []) d_Cp_as_34 l_Cp_154 k_Cu_isSuch (kRwc (Or.inl rfl) (by omega) (by omega)) rfl rfl rfl rfl (s_Cu_isSuch mem (3 + 2 + i) k (kRwc (Or.inl rfl) (by omega) (by omega)) (by have := hK.2 i (by omega) (by omega); omega) (by omega)) ?_
      show zS zT m_Cp_as (0, 0) 37 [some (2, 0), some (0, i), some (0, k)] [(0, (zb (k = 0 ∨ k = mem (3 + 2 + i) 0 ∨ (k = 1 ∧ mem (3 + 2 + i) 0 = 2))))] mem _
      refine zV_ifb_eq d_Cp_as_37 (fun c37 => ?_) (fun c37 => ?_)
      · refine zV_iconst d_Cp_as_44 ?_
        exact zS_iret d_Cp_as_45 rfl ⟨Nat.zero_le _, Nat.zero_le _⟩ (by refine ⟨?_, rfl⟩; (repeat' split) <;> first | rfl | (exfalso; omega))
      · refine zV_iload_n d_Cp_as_40 rfl ?_
        refine zV_goto d_Cp_as_41 ?_
        exact zS_iret d_Cp_as_45 rfl ⟨Nat.zero_le _, Nat.zero_le _⟩ (by refine ⟨?_, rfl⟩; (repeat' split) <;> first | rfl | (exfalso; omega))
    · refine zV_bipush d_Cp_as_21 ?_
      exact zS_iret d_Cp_as_23 rfl ⟨Nat.zero_le _, Nat.zero_le _⟩ (by refine ⟨?_, rfl⟩; (repeat' split) <;> first | rfl | (exfalso; omega))
  · refine zV_bipush d_Cp_as_11 ?_
    exact zS_iret d_Cp_as_13 rfl ⟨Nat.zero_le _, Nat.zero_le _⟩ (by refine ⟨?_, rfl⟩; (repeat' split) <;> first | rfl | (exfalso; omega))
