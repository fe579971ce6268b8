/-! the reference: short methods -/
theorem s_Mo_in (mem : zMem) (v a b : Int) (hv : I64 v) (ha : I64 a) (hb : I64 b) : zF m_Mo_in [(1, v), (1, a), (1, b)] mem (fun r m => r = some (0, zb (a ≤ v ∧ v ≤ b)) ∧ m = mem) := by
  refine zF_of (by decide) (Nat.le_of_ble_eq_true rfl) ?_
  show zS zT m_Mo_in (0, 0) 0 [some (1, v), none, some (1, a), none, some (1, b), none] [] mem _
  refine zV_lload_n d_Mo_in_0 rfl ?_
  refine zV_lload_n d_Mo_in_1 rfl ?_
  refine zV_lcmp_lt d_Mo_in_2 d_Mo_in_3 (by omega) (by omega) (fun c2 => ?_) (fun c2 => ?_)
  · refine zV_iconst d_Mo_in_17 ?_
    exact zS_zret d_Mo_in_18 rfl ⟨Nat.zero_le _, Nat.zero_le _⟩ (Or.inl rfl) (by refine ⟨?_, rfl⟩; first | rw [zb_t (by omega)] | rw [zb_f (by omega)])
  · refine zV_lload_n d_Mo_in_6 rfl ?_
    refine zV_lload d_Mo_in_7 rfl ?_
    refine zV_lcmp_gt d_Mo_in_9 d_Mo_in_10 (by omega) (by omega) (fun c9 => ?_) (fun c9 => ?_)
    · refine zV_iconst d_Mo_in_17 ?_
      exact zS_zret d_Mo_in_18 rfl ⟨Nat.zero_le _, Nat.zero_le _⟩ (Or.inl rfl) (by refine ⟨?_, rfl⟩; first | rw [zb_t (by omega)] | rw [zb_f (by omega)])
    · refine zV_iconst d_Mo_in_13 ?_
      refine zV_goto d_Mo_in_14 ?_
      exact zS_zret d_Mo_in_18 rfl ⟨Nat.zero_le _, Nat.zero_le _⟩ (Or.inr rfl) (by refine ⟨?_, rfl⟩; first | rw [zb_t (by omega)] | rw [zb_f (by omega)])
theorem s_Mo_kindBy (mem : zMem) (k : Int) (hk : I32 k) : zF m_Mo_kindBy [(0, k)] mem (fun r m => r = some (0, kindBy k) ∧ m = mem) := by
  refine zF_of (by decide) (Nat.le_of_ble_eq_true rfl) ?_
  show zS zT m_Mo_kindBy (0, 0) 0 [some (0, k)] [] mem _
  refine zV_iload_n d_Mo_kindBy_0 rfl ?_
  by_cases c1_102 : k = 102
  · refine zV_lsw (off := 59) (tgt := 60) d_Mo_kindBy_1 (by omega) (by decide) (by rw [c1_102]; decide) (by decide) ?_
    refine zV_iconst d_Mo_kindBy_60 ?_
    exact zS_iret d_Mo_kindBy_61 rfl ⟨Nat.zero_le _, Nat.zero_le _⟩ (by refine ⟨?_, rfl⟩; unfold kindBy; (repeat' split) <;> first | rfl | omega)
  by_cases c1_104 : k = 104
  · refine zV_lsw (off := 55) (tgt := 56) d_Mo_kindBy_1 (by omega) (by decide) (by rw [c1_104]; decide) (by decide) ?_
    refine zV_iconst d_Mo_kindBy_56 ?_
    exact zS_iret d_Mo_kindBy_57 rfl ⟨Nat.zero_le _, Nat.zero_le _⟩ (by refine ⟨?_, rfl⟩; unfold kindBy; (repeat' split) <;> first | rfl | omega)
  by_cases c1_108 : k = 108
  · refine zV_lsw (off := 53) (tgt := 54) d_Mo_kindBy_1 (by omega) (by decide) (by rw [c1_108]; decide) (by decide) ?_
    refine zV_iconst d_Mo_kindBy_54 ?_
    exact zS_iret d_Mo_kindBy_55 rfl ⟨Nat.zero_le _, Nat.zero_le _⟩ (by refine ⟨?_, rfl⟩; unfold kindBy; (repeat' split) <;> first | rfl | omega)
  by_cases c1_112 : k = 112
  · refine zV_lsw (off := 51) (tgt := 52) d_Mo_kindBy_1 (by omega) (by decide) (by rw [c1_112]; decide) (by decide) ?_
    refine zV_iconst d_Mo_kindBy_52 ?_
    exact zS_iret d_Mo_kindBy_53 rfl ⟨Nat.zero_le _, Nat.zero_le _⟩ (by refine ⟨?_, rfl⟩; unfold kindBy; (repeat' split) <;> first | rfl | omega)
  by_cases c1_117 : k = 117
  · refine zV_lsw (off := 57) (tgt := 58) d_Mo_kindBy_1 (by omega) (by decide) (by rw [c1_117]; decide) (by decide) ?_
    refine zV_iconst d_Mo_kindBy_58 ?_
    exact zS_iret d_Mo_kindBy_59 rfl ⟨Nat.zero_le _, Nat.zero_le _⟩ (by refine ⟨?_, rfl⟩; unfold kindBy; (repeat' split) <;> first | rfl | omega)
  refine zV_lsw (off := 61) (tgt := 62) d_Mo_kindBy_1 (by omega) (by decide) (by show Op.lookupswitch.offset [(102, 59), (104, 55), (108, 53), (112, 51), (117, 57)] 61 _ = 61; rw [Op.lookupswitch.offset_cons, if_neg (by omega), Op.lookupswitch.offset_cons, if_neg (by omega), Op.lookupswitch.offset_cons, if_neg (by omega), Op.lookupswitch.offset_cons, if_neg (by omega), Op.lookupswitch.offset_cons, if_neg (by omega)]; rfl) (by decide) ?_
  refine zV_iconst d_Mo_kindBy_62 ?_
  exact zS_iret d_Mo_kindBy_63 rfl ⟨Nat.zero_le _, Nat.zero_le _⟩ (by refine ⟨?_, rfl⟩; unfold kindBy; (repeat' split) <;> first | rfl | omega)
theorem s_Mo_squareBy (mem : zMem) (k : Int) (hk : I32 k) : zF m_Mo_squareBy [(0, k)] mem (fun r m => r = some (0, sqK k) ∧ m = mem) := by
  refine zF_of (by decide) (Nat.le_of_ble_eq_true rfl) ?_
  show zS zT m_Mo_squareBy (0, 0) 0 [some (0, k)] [] mem _
  refine zV_iload_n d_Mo_squareBy_0 rfl ?_
  refine zV_if_ne d_Mo_squareBy_1 (by omega) (fun c1 => ?_) (fun c1 => ?_)
  · refine zV_iload_n d_Mo_squareBy_8 rfl ?_
    refine zV_iconst d_Mo_squareBy_9 ?_
    refine zV_icmp_ne d_Mo_squareBy_10 (by omega) (by omega) (fun c10 => ?_) (fun c10 => ?_)
    · refine zV_iconst d_Mo_squareBy_17 ?_
      exact zS_iret d_Mo_squareBy_18 rfl ⟨Nat.zero_le _, Nat.zero_le _⟩ (by refine ⟨?_, rfl⟩; unfold sqK; (repeat' split) <;> first | rfl | omega)
    · refine zV_iconst d_Mo_squareBy_13 ?_
      refine zV_goto d_Mo_squareBy_14 ?_
      exact zS_iret d_Mo_squareBy_18 rfl ⟨Nat.zero_le _, Nat.zero_le _⟩ (by refine ⟨?_, rfl⟩; unfold sqK; (repeat' split) <;> first | rfl | omega)
  · refine zV_iconst d_Mo_squareBy_4 ?_
    refine zV_goto d_Mo_squareBy_5 ?_
    exact zS_iret d_Mo_squareBy_18 rfl ⟨Nat.zero_le _, Nat.zero_le _⟩ (by refine ⟨?_, rfl⟩; unfold sqK; (repeat' split) <;> first | rfl | omega)
theorem s_Mo_signOf (mem : zMem) (v : Int) (hv : I64 v) : zF m_Mo_signOf [(1, v)] mem (fun r m => r = some (0, cmpI v 0) ∧ m = mem) := by
  refine zF_of (by decide) (Nat.le_of_ble_eq_true rfl) ?_
  show zS zT m_Mo_signOf (0, 0) 0 [some (1, v), none] [] mem _
  refine zV_lload_n d_Mo_signOf_0 rfl ?_
  refine zV_lconst0 d_Mo_signOf_1 ?_
  refine zV_lcmp_le d_Mo_signOf_2 d_Mo_signOf_3 (by omega) (by omega) (fun c2 => ?_) (fun c2 => ?_)
  · refine zV_lload_n d_Mo_signOf_10 rfl ?_
    refine zV_lconst0 d_Mo_signOf_11 ?_
    refine zV_lcmp_ge d_Mo_signOf_12 d_Mo_signOf_13 (by omega) (by omega) (fun c12 => ?_) (fun c12 => ?_)
    · refine zV_iconst d_Mo_signOf_20 ?_
      exact zS_iret d_Mo_signOf_21 rfl ⟨Nat.zero_le _, Nat.zero_le _⟩ (by refine ⟨?_, rfl⟩; unfold cmpI; (repeat' split) <;> first | rfl | omega)
    · refine zV_iconst d_Mo_signOf_16 ?_
      refine zV_goto d_Mo_signOf_17 ?_
      exact zS_iret d_Mo_signOf_21 rfl ⟨Nat.zero_le _, Nat.zero_le _⟩ (by refine ⟨?_, rfl⟩; unfold cmpI; (repeat' split) <;> first | rfl | omega)
  · refine zV_iconst d_Mo_signOf_6 ?_
    refine zV_goto d_Mo_signOf_7 ?_
    exact zS_iret d_Mo_signOf_21 rfl ⟨Nat.zero_le _, Nat.zero_le _⟩ (by refine ⟨?_, rfl⟩; unfold cmpI; (repeat' split) <;> first | rfl | omega)
theorem s_Mo_lacks (mem : zMem) (h : I32 (mem 80 2)) : zF m_Mo_lacks [(2, 80)] mem (fun r m => r = some (0, zb (mem 80 2 = 0)) ∧ m = mem) := by
  refine zF_of (by decide) (Nat.le_of_ble_eq_true rfl) ?_
  show zS zT m_Mo_lacks (0, 0) 0 [some (2, 80)] [] mem _
  refine zV_aload_n d_Mo_lacks_0 rfl ?_
  refine zS_get d_Mo_lacks_1 f_Mo_103 rfl rfl ?_
  refine zV_if_ne d_Mo_lacks_4 (by omega) (fun c4 => ?_) (fun c4 => ?_)
  · refine zV_iconst d_Mo_lacks_11 ?_
    exact zS_zret d_Mo_lacks_12 rfl ⟨Nat.zero_le _, Nat.zero_le _⟩ (Or.inl rfl) (by refine ⟨?_, rfl⟩; first | rw [zb_t (by omega)] | rw [zb_f (by omega)])
  · refine zV_iconst d_Mo_lacks_7 ?_
    refine zV_goto d_Mo_lacks_8 ?_
    exact zS_zret d_Mo_lacks_12 rfl ⟨Nat.zero_le _, Nat.zero_le _⟩ (Or.inr rfl) (by refine ⟨?_, rfl⟩; first | rw [zb_t (by omega)] | rw [zb_f (by omega)])
theorem s_Mo_isCurve (mem : zMem) (k : Int) (hk : I32 k) (h : 0 ≤ mem 80 2 ∧ mem 80 2 ≤ 4) : zF m_Mo_isCurve [(2, 80), (0, k)] mem (fun r m => r = some (0, zb (0 ≤ k ∧ k ≤ mem 80 2 - 1)) ∧ m = mem) := by
  refine zF_of (by decide) (Nat.le_of_ble_eq_true rfl) ?_
  show zS zT m_Mo_isCurve (0, 0) 0 [some (2, 80), some (0, k)] [] mem _
  refine zV_iload_n d_Mo_isCurve_0 rfl ?_
  refine zV_i2l d_Mo_isCurve_1 (by omega) ?_
  refine zV_lconst0 d_Mo_isCurve_2 ?_
  refine zV_aload_n d_Mo_isCurve_3 rfl ?_
  refine zS_get d_Mo_isCurve_4 f_Mo_103 rfl rfl ?_
  refine zV_iconst d_Mo_isCurve_7 ?_
  refine zV_isub d_Mo_isCurve_8 ?_
  refine zV_i2l d_Mo_isCurve_9 (by omega) ?_
  refine zS_invsE (mt' := m_Mo_in) (avs := [(1, k), (1, 0), (1, ((mem 80 2) - 1))]) (st := []) d_Mo_isCurve_10 l_Mo_80 k_Mo_in rfl rfl rfl rfl (s_Mo_in mem k 0 ((mem 80 2) - 1) (by omega) (by omega) (by omega)) ?_
  show zS zT m_Mo_isCurve (0, 0) 13 [some (2, 80), some (0, k)] [(0, (zb (0 ≤ k ∧ k ≤ ((mem 80 2) - 1))))] mem _
  exact zS_zret d_Mo_isCurve_13 rfl ⟨Nat.zero_le _, Nat.zero_le _⟩ (zb_01 _) ⟨rfl, rfl⟩
theorem s_Mo_isNumber (mem : zMem) (v : Int) (hv : I32 v) : zF m_Mo_isNumber [(0, v)] mem (fun r m => r = some (0, zb (-9 ≤ v ∧ v ≤ 9)) ∧ m = mem) := by
  refine zF_of (by decide) (Nat.le_of_ble_eq_true rfl) ?_
  show zS zT m_Mo_isNumber (0, 0) 0 [some (0, v)] [] mem _
  refine zV_iload_n d_Mo_isNumber_0 rfl ?_
  refine zV_i2l d_Mo_isNumber_1 (by omega) ?_
  refine zV_ldc2 (a := (-9)) d_Mo_isNumber_2 n_Mo_301 rfl ?_
  refine zV_ldc2 (a := 9) d_Mo_isNumber_5 n_Mo_303 rfl ?_
  refine zS_invsE (mt' := m_Mo_in) (avs := [(1, v), (1, (-9)), (1, 9)]) (st := []) d_Mo_isNumber_8 l_Mo_80 k_Mo_in rfl rfl rfl rfl (s_Mo_in mem v (-9) 9 (by omega) (by omega) (by omega)) ?_
  show zS zT m_Mo_isNumber (0, 0) 11 [some (0, v)] [(0, (zb ((-9) ≤ v ∧ v ≤ 9)))] mem _
  exact zS_zret d_Mo_isNumber_11 rfl ⟨Nat.zero_le _, Nat.zero_le _⟩ (zb_01 _) ⟨rfl, rfl⟩
theorem s_Mo_blank (mem : zMem) : zF m_Mo_blank [(2, 80)] mem (fun r m => r = some (0, mem 80 1) ∧ m = zup mem 80 1 0) := by
  refine zF_of (by decide) (Nat.le_of_ble_eq_true rfl) ?_
  show zS zT m_Mo_blank (0, 0) 0 [some (2, 80), none] [] mem _
  refine zV_aload_n d_Mo_blank_0 rfl ?_
  refine zS_get d_Mo_blank_1 f_Mo_84 rfl rfl ?_
  refine zV_istore_n (L' := [some (2, 80), some (0, (mem 80 1))]) d_Mo_blank_4 (by decide) rfl ?_
  refine zV_aload_n d_Mo_blank_5 rfl ?_
  refine zV_iconst d_Mo_blank_6 ?_
  refine zS_puti d_Mo_blank_7 f_Mo_84 rfl ⟨rfl, rfl⟩ rfl ?_
  refine zV_iload_n d_Mo_blank_10 rfl ?_
  exact zS_iret d_Mo_blank_11 rfl ⟨Nat.zero_le _, Nat.zero_le _⟩ ⟨rfl, rfl⟩
theorem s_Mo_forget (mem : zMem) : zF m_Mo_forget [(2, 80)] mem (fun r m => r = some (0, mem 80 22) ∧ m = zup mem 80 22 0) := by
  refine zF_of (by decide) (Nat.le_of_ble_eq_true rfl) ?_
  show zS zT m_Mo_forget (0, 0) 0 [some (2, 80), none] [] mem _
  refine zV_aload_n d_Mo_forget_0 rfl ?_
  refine zS_get d_Mo_forget_1 f_Mo_113 rfl rfl ?_
  refine zV_istore_n (L' := [some (2, 80), some (0, (mem 80 22))]) d_Mo_forget_4 (by decide) rfl ?_
  refine zV_aload_n d_Mo_forget_5 rfl ?_
  refine zV_iconst d_Mo_forget_6 ?_
  refine zS_puti d_Mo_forget_7 f_Mo_113 rfl ⟨rfl, rfl⟩ rfl ?_
  refine zV_iload_n d_Mo_forget_10 rfl ?_
  exact zS_iret d_Mo_forget_11 rfl ⟨Nat.zero_le _, Nat.zero_le _⟩ ⟨rfl, rfl⟩
theorem s_Mo_letter (mem : zMem) (c : Int) (hc : I32 c) (h : 0 ≤ mem 80 1 ∧ mem 80 1 ≤ 24) : zF m_Mo_letter [(2, 80), (0, c)] mem (fun r m => r = some (0, if 1 ≤ c ∧ c ≤ 126 then (if mem 80 1 < 24 then mem 80 1 + 1 else -104) else -102) ∧ m = cif ((1 ≤ c ∧ c ≤ 126) ∧ mem 80 1 < 24) (zup (zup mem 81 (mem 80 1) c) 80 1 (mem 80 1 + 1)) mem) := by
  refine zF_of (by decide) (Nat.le_of_ble_eq_true rfl) ?_
  show zS zT m_Mo_letter (0, 0) 0 [some (2, 80), some (0, c)] [] mem _
  refine zV_iload_n d_Mo_letter_0 rfl ?_
  refine zV_i2l d_Mo_letter_1 (by omega) ?_
  refine zV_lconst1 d_Mo_letter_2 ?_
  refine zV_ldc2 (a := 126) d_Mo_letter_3 n_Mo_78 rfl ?_
  refine zS_invsE (mt' := m_Mo_in) (avs := [(1, c), (1, 1), (1, 126)]) (st := []) d_Mo_letter_6 l_Mo_80 k_Mo_in rfl rfl rfl rfl (s_Mo_in mem c 1 126 (by omega) (by omega) (by omega)) ?_
  show zS zT m_Mo_letter (0, 0) 9 [some (2, 80), some (0, c)] [(0, (zb (1 ≤ c ∧ c ≤ 126)))] mem _
  refine zV_ifb_ne d_Mo_letter_9 (fun c9 => ?_) (fun c9 => ?_)
  · refine zV_aload_n d_Mo_letter_15 rfl ?_
    refine zS_get d_Mo_letter_16 f_Mo_84 rfl rfl ?_
    refine zV_bipush d_Mo_letter_19 ?_
    refine zV_icmp_ne d_Mo_letter_21 (by omega) (by omega) (fun c21 => ?_) (fun c21 => ?_)
    · refine zV_aload_n d_Mo_letter_27 rfl ?_
      refine zS_getr (r := 81) d_Mo_letter_28 f_Mo_7 rfl rfl rfl ?_
      refine zV_aload_n d_Mo_letter_31 rfl ?_
      refine zS_get d_Mo_letter_32 f_Mo_84 rfl rfl ?_
      refine zV_iload_n d_Mo_letter_35 rfl ?_
      refine zS_iast d_Mo_letter_36 rfl rfl ⟨by omega, by omega⟩ ?_
      refine zV_aload_n d_Mo_letter_37 rfl ?_
      refine zV_dup d_Mo_letter_38 (show (2 : Nat) ≠ 1 by decide) ?_
      refine zS_get d_Mo_letter_39 f_Mo_84 rfl rfl ?_
      rw [show (zup mem 81 (mem 80 1) c) 80 1 = (mem 80 1) from zup_c (by omega)]
      refine zV_iconst d_Mo_letter_42 ?_
      refine zV_iadd d_Mo_letter_43 ?_
      refine zS_puti d_Mo_letter_44 f_Mo_84 rfl ⟨rfl, rfl⟩ rfl ?_
      refine zV_aload_n d_Mo_letter_47 rfl ?_
      refine zS_get d_Mo_letter_48 f_Mo_84 rfl rfl ?_
      rw [show (zup (zup mem 81 (mem 80 1) c) 80 1 ((mem 80 1) + 1)) 80 1 = ((mem 80 1) + 1) from zup_s]
      exact zS_iret d_Mo_letter_51 rfl ⟨Nat.zero_le _, Nat.zero_le _⟩ (by rw [if_pos (by omega), if_pos (by omega), cif_t (by omega)]; exact ⟨rfl, rfl⟩)
    · refine zV_bipush d_Mo_letter_24 ?_
      exact zS_iret d_Mo_letter_26 rfl ⟨Nat.zero_le _, Nat.zero_le _⟩ (by rw [if_pos (by omega), if_neg (by omega), cif_f (by omega)]; exact ⟨rfl, rfl⟩)
  · refine zV_bipush d_Mo_letter_12 ?_
    exact zS_iret d_Mo_letter_14 rfl ⟨Nat.zero_le _, Nat.zero_le _⟩ (by rw [if_neg (by omega), cif_f (by omega)]; exact ⟨rfl, rfl⟩)
theorem s_Mo_isGood (mem : zMem) (i : Int) (hi : 0 ≤ i ∧ i < 24) (hc : 0 ≤ mem 81 i ∧ mem 81 i ≤ 126) : zF m_Mo_isGood [(2, 80), (0, i)] mem (fun r m => r = some (0, zb (fitsP (mem 81) i)) ∧ m = mem) := by
  have kr := kindBy_r (mem 81 i)
  refine zF_of (by decide) (Nat.le_of_ble_eq_true rfl) ?_
  show zS zT m_Mo_isGood (0, 0) 0 [some (2, 80), some (0, i), none] [] mem _
  refine zV_aload_n d_Mo_isGood_0 rfl ?_
  refine zS_getr (r := 81) d_Mo_isGood_1 f_Mo_7 rfl rfl rfl ?_
  refine zV_iload_n d_Mo_isGood_4 rfl ?_
  refine zS_iald d_Mo_isGood_5 rfl rfl ⟨by omega, by omega⟩ ?_
  refine zV_istore_n (L' := [some (2, 80), some (0, i), some (0, (mem 81 i))]) d_Mo_isGood_6 (by decide) rfl ?_
  refine zV_iload_n d_Mo_isGood_7 rfl ?_
  refine zV_bipush d_Mo_isGood_8 ?_
  refine zV_irem_p d_Mo_isGood_10 (by omega) (by omega) ?_
  by_cases c11_0 : (i % 6) = 0
  · refine zV_tsIn (off := 33) (tgt := 44) d_Mo_isGood_11 (by omega) c11_0 (by decide) ?_
    refine zV_iload_n d_Mo_isGood_44 rfl ?_
    refine zS_invsE (mt' := m_Mo_kindBy) (avs := [(0, (mem 81 i))]) (st := []) d_Mo_isGood_45 l_Mo_87 k_Mo_kindBy rfl rfl rfl rfl (s_Mo_kindBy mem (mem 81 i) (by omega)) ?_
    show zS zT m_Mo_isGood (0, 0) 48 [some (2, 80), some (0, i), some (0, (mem 81 i))] [(0, (kindBy (mem 81 i)))] mem _
    refine zV_iconst d_Mo_isGood_48 ?_
    refine zV_icmp_eq d_Mo_isGood_49 (by omega) (by omega) (fun c49 => ?_) (fun c49 => ?_)
    · refine zV_iconst d_Mo_isGood_56 ?_
      exact zS_zret d_Mo_isGood_57 rfl ⟨Nat.zero_le _, Nat.zero_le _⟩ (Or.inl rfl) (by refine ⟨?_, rfl⟩; first | rw [zb_t (by unfold fitsP; omega)] | rw [zb_f (by unfold fitsP; omega)])
    · refine zV_iconst d_Mo_isGood_52 ?_
      refine zV_goto d_Mo_isGood_53 ?_
      exact zS_zret d_Mo_isGood_57 rfl ⟨Nat.zero_le _, Nat.zero_le _⟩ (Or.inr rfl) (by refine ⟨?_, rfl⟩; first | rw [zb_t (by unfold fitsP; omega)] | rw [zb_f (by unfold fitsP; omega)])
  by_cases c11_1 : (i % 6) = 1
  · refine zV_tsIn (off := 47) (tgt := 58) d_Mo_isGood_11 (by omega) c11_1 (by decide) ?_
    refine zV_iload_n d_Mo_isGood_58 rfl ?_
    refine zV_bipush d_Mo_isGood_59 ?_
    refine zV_icmp_eq d_Mo_isGood_61 (by omega) (by omega) (fun c61 => ?_) (fun c61 => ?_)
    · refine zV_iconst d_Mo_isGood_70 ?_
      refine zV_goto d_Mo_isGood_71 ?_
      exact zS_zret d_Mo_isGood_75 rfl ⟨Nat.zero_le _, Nat.zero_le _⟩ (Or.inr rfl) (by refine ⟨?_, rfl⟩; first | rw [zb_t (by unfold fitsP; omega)] | rw [zb_f (by unfold fitsP; omega)])
    · refine zV_iload_n d_Mo_isGood_64 rfl ?_
      refine zV_bipush d_Mo_isGood_65 ?_
      refine zV_icmp_ne d_Mo_isGood_67 (by omega) (by omega) (fun c67 => ?_) (fun c67 => ?_)
      · refine zV_iconst d_Mo_isGood_74 ?_
        exact zS_zret d_Mo_isGood_75 rfl ⟨Nat.zero_le _, Nat.zero_le _⟩ (Or.inl rfl) (by refine ⟨?_, rfl⟩; first | rw [zb_t (by unfold fitsP; omega)] | rw [zb_f (by unfold fitsP; omega)])
      · refine zV_iconst d_Mo_isGood_70 ?_
        refine zV_goto d_Mo_isGood_71 ?_
        exact zS_zret d_Mo_isGood_75 rfl ⟨Nat.zero_le _, Nat.zero_le _⟩ (Or.inr rfl) (by refine ⟨?_, rfl⟩; first | rw [zb_t (by unfold fitsP; omega)] | rw [zb_f (by unfold fitsP; omega)])
  by_cases c11_2 : (i % 6) = 2
  · refine zV_tsIn (off := 65) (tgt := 76) d_Mo_isGood_11 (by omega) c11_2 (by decide) ?_
    refine zV_iload_n d_Mo_isGood_76 rfl ?_
    refine zV_i2l d_Mo_isGood_77 (by omega) ?_
    refine zV_ldc2 (a := 48) d_Mo_isGood_78 n_Mo_91 rfl ?_
    refine zV_ldc2 (a := 57) d_Mo_isGood_81 n_Mo_93 rfl ?_
    refine zS_invsE (mt' := m_Mo_in) (avs := [(1, (mem 81 i)), (1, 48), (1, 57)]) (st := []) d_Mo_isGood_84 l_Mo_80 k_Mo_in rfl rfl rfl rfl (s_Mo_in mem (mem 81 i) 48 57 (by omega) (by omega) (by omega)) ?_
    show zS zT m_Mo_isGood (0, 0) 87 [some (2, 80), some (0, i), some (0, (mem 81 i))] [(0, (zb (48 ≤ (mem 81 i) ∧ (mem 81 i) ≤ 57)))] mem _
    exact zS_zret d_Mo_isGood_87 rfl ⟨Nat.zero_le _, Nat.zero_le _⟩ (zb_01 _) (by refine ⟨?_, rfl⟩; congr 2; apply zb_iff; unfold fitsP; omega)
  by_cases c11_3 : (i % 6) = 3
  · refine zV_tsIn (off := 47) (tgt := 58) d_Mo_isGood_11 (by omega) c11_3 (by decide) ?_
    refine zV_iload_n d_Mo_isGood_58 rfl ?_
    refine zV_bipush d_Mo_isGood_59 ?_
    refine zV_icmp_eq d_Mo_isGood_61 (by omega) (by omega) (fun c61 => ?_) (fun c61 => ?_)
    · refine zV_iconst d_Mo_isGood_70 ?_
      refine zV_goto d_Mo_isGood_71 ?_
      exact zS_zret d_Mo_isGood_75 rfl ⟨Nat.zero_le _, Nat.zero_le _⟩ (Or.inr rfl) (by refine ⟨?_, rfl⟩; first | rw [zb_t (by unfold fitsP; omega)] | rw [zb_f (by unfold fitsP; omega)])
    · refine zV_iload_n d_Mo_isGood_64 rfl ?_
      refine zV_bipush d_Mo_isGood_65 ?_
      refine zV_icmp_ne d_Mo_isGood_67 (by omega) (by omega) (fun c67 => ?_) (fun c67 => ?_)
      · refine zV_iconst d_Mo_isGood_74 ?_
        exact zS_zret d_Mo_isGood_75 rfl ⟨Nat.zero_le _, Nat.zero_le _⟩ (Or.inl rfl) (by refine ⟨?_, rfl⟩; first | rw [zb_t (by unfold fitsP; omega)] | rw [zb_f (by unfold fitsP; omega)])
      · refine zV_iconst d_Mo_isGood_70 ?_
        refine zV_goto d_Mo_isGood_71 ?_
        exact zS_zret d_Mo_isGood_75 rfl ⟨Nat.zero_le _, Nat.zero_le _⟩ (Or.inr rfl) (by refine ⟨?_, rfl⟩; first | rw [zb_t (by unfold fitsP; omega)] | rw [zb_f (by unfold fitsP; omega)])
  by_cases c11_4 : (i % 6) = 4
  · refine zV_tsIn (off := 65) (tgt := 76) d_Mo_isGood_11 (by omega) c11_4 (by decide) ?_
    refine zV_iload_n d_Mo_isGood_76 rfl ?_
    refine zV_i2l d_Mo_isGood_77 (by omega) ?_
    refine zV_ldc2 (a := 48) d_Mo_isGood_78 n_Mo_91 rfl ?_
    refine zV_ldc2 (a := 57) d_Mo_isGood_81 n_Mo_93 rfl ?_
    refine zS_invsE (mt' := m_Mo_in) (avs := [(1, (mem 81 i)), (1, 48), (1, 57)]) (st := []) d_Mo_isGood_84 l_Mo_80 k_Mo_in rfl rfl rfl rfl (s_Mo_in mem (mem 81 i) 48 57 (by omega) (by omega) (by omega)) ?_
    show zS zT m_Mo_isGood (0, 0) 87 [some (2, 80), some (0, i), some (0, (mem 81 i))] [(0, (zb (48 ≤ (mem 81 i) ∧ (mem 81 i) ≤ 57)))] mem _
    exact zS_zret d_Mo_isGood_87 rfl ⟨Nat.zero_le _, Nat.zero_le _⟩ (zb_01 _) (by refine ⟨?_, rfl⟩; congr 2; apply zb_iff; unfold fitsP; omega)
  refine zV_tsOut (tgt := 88) d_Mo_isGood_11 (by omega) (by omega) (by decide) ?_
  refine zV_iload_n d_Mo_isGood_88 rfl ?_
  refine zV_bipush d_Mo_isGood_89 ?_
  refine zV_icmp_ne d_Mo_isGood_91 (by omega) (by omega) (fun c91 => ?_) (fun c91 => ?_)
  · refine zV_iconst d_Mo_isGood_104 ?_
    exact zS_zret d_Mo_isGood_105 rfl ⟨Nat.zero_le _, Nat.zero_le _⟩ (Or.inl rfl) (by refine ⟨?_, rfl⟩; first | rw [zb_t (by unfold fitsP; omega)] | rw [zb_f (by unfold fitsP; omega)])
  · refine zV_iload_n d_Mo_isGood_94 rfl ?_
    refine zV_bipush d_Mo_isGood_95 ?_
    refine zV_icmp_ge d_Mo_isGood_97 (by omega) (by omega) (fun c97 => ?_) (fun c97 => ?_)
    · refine zV_iconst d_Mo_isGood_104 ?_
      exact zS_zret d_Mo_isGood_105 rfl ⟨Nat.zero_le _, Nat.zero_le _⟩ (Or.inl rfl) (by refine ⟨?_, rfl⟩; first | rw [zb_t (by unfold fitsP; omega)] | rw [zb_f (by unfold fitsP; omega)])
    · refine zV_iconst d_Mo_isGood_100 ?_
      refine zV_goto d_Mo_isGood_101 ?_
      exact zS_zret d_Mo_isGood_105 rfl ⟨Nat.zero_le _, Nat.zero_le _⟩ (Or.inr rfl) (by refine ⟨?_, rfl⟩; first | rw [zb_t (by unfold fitsP; omega)] | rw [zb_f (by unfold fitsP; omega)])
theorem s_Mo_faultOf_l (mem : zMem) (q : Int) (hn : 0 ≤ mem 80 1 ∧ mem 80 1 ≤ 24) (hc : ∀ i, 0 ≤ i → i < mem 80 1 → 0 ≤ mem 81 i ∧ mem 81 i ≤ 126) : ∀ (i : Int), (0 ≤ i) → (i ≤ mem 80 1) → (zff (fun i => ¬ fitsP (mem 81) i) (mem 80 1 - i).toNat i = q) → zS zT m_Mo_faultOf (0, 0) 2 [some (2, 80), some (0, i)] [] mem (zQs (fun r m => r = some (0, q) ∧ m = mem)) := by
  intro i
  obtain ⟨k9, hk9⟩ : ∃ kq : Nat, (mem 80 1 - i).toNat = kq := ⟨_, rfl⟩
  induction k9 using Nat.strongRecOn generalizing i with
  | _ k9 ih =>
    intro i0 i1 i2
    refine zV_iload_n d_Mo_faultOf_2 rfl ?_
    refine zV_aload_n d_Mo_faultOf_3 rfl ?_
    refine zS_get d_Mo_faultOf_4 f_Mo_84 rfl rfl ?_
    refine zV_icmp_ge d_Mo_faultOf_7 (by omega) (by omega) (fun c7 => ?_) (fun c7 => ?_)
    · refine zV_iload_n d_Mo_faultOf_24 rfl ?_
      exact zS_iret d_Mo_faultOf_25 rfl ⟨Nat.zero_le _, Nat.zero_le _⟩ ⟨by rw [← i2]; first | rw [zff_e (by omega)] | rw [zff_t (by omega) c15], rfl⟩
    · refine zV_aload_n d_Mo_faultOf_10 rfl ?_
      refine zV_iload_n d_Mo_faultOf_11 rfl ?_
      refine zS_invvE (mt' := m_Mo_isGood) (avs := [(0, i)]) (st := []) d_Mo_faultOf_12 l_Mo_95 k_Mo_isGood rfl rfl rfl rfl rfl (s_Mo_isGood mem i (by omega) (hc _ (by omega) (by omega))) ?_
      show zS zT m_Mo_faultOf (0, 0) 15 [some (2, 80), some (0, i)] [(0, (zb (fitsP (mem 81) i)))] mem _
      refine zV_ifb_eq d_Mo_faultOf_15 (fun c15 => ?_) (fun c15 => ?_)
      · refine zV_iload_n d_Mo_faultOf_24 rfl ?_
        exact zS_iret d_Mo_faultOf_25 rfl ⟨Nat.zero_le _, Nat.zero_le _⟩ ⟨by rw [← i2]; first | rw [zff_e (by omega)] | rw [zff_t (by omega) c15], rfl⟩
      · refine zV_iinc (L' := [some (2, 80), some (0, (i + 1))]) d_Mo_faultOf_18 (by decide) rfl rfl ?_
        refine zV_goto d_Mo_faultOf_21 ?_
        exact ih _ (by omega) _ rfl (by omega) (by omega) (by rw [← i2, zff_f (n := mem 80 1) (i := i) (by omega) (fun h => h c15)])
theorem s_Mo_faultOf (mem : zMem) (hn : 0 ≤ mem 80 1 ∧ mem 80 1 ≤ 24) (hc : ∀ i, 0 ≤ i → i < mem 80 1 → 0 ≤ mem 81 i ∧ mem 81 i ≤ 126) : zF m_Mo_faultOf [(2, 80)] mem (fun r m => r = some (0, ffI (mem 81) (mem 80 1)) ∧ m = mem) := by
  refine zF_of (by decide) (Nat.le_of_ble_eq_true rfl) ?_
  show zS zT m_Mo_faultOf (0, 0) 0 [some (2, 80), none] [] mem _
  refine zV_iconst d_Mo_faultOf_0 ?_
  refine zV_istore_n (L' := [some (2, 80), some (0, 0)]) d_Mo_faultOf_1 (by decide) rfl ?_
  exact s_Mo_faultOf_l mem _ hn hc 0 (by omega) (by omega) rfl
theorem s_Mo_fault (mem : zMem) (hn : 0 ≤ mem 80 1 ∧ mem 80 1 ≤ 24) (hc : ∀ i, 0 ≤ i → i < mem 80 1 → 0 ≤ mem 81 i ∧ mem 81 i ≤ 126) : zF m_Mo_fault [(2, 80)] mem (fun r m => r = some (0, ffI (mem 81) (mem 80 1)) ∧ m = mem) := by
  refine zF_of (by decide) (Nat.le_of_ble_eq_true rfl) ?_
  show zS zT m_Mo_fault (0, 0) 0 [some (2, 80)] [] mem _
  refine zV_aload_n d_Mo_fault_0 rfl ?_
  refine zS_invvE (mt' := m_Mo_faultOf) (avs := []) (st := []) d_Mo_fault_1 l_Mo_99 k_Mo_faultOf rfl rfl rfl rfl rfl (s_Mo_faultOf mem hn hc) ?_
  show zS zT m_Mo_fault (0, 0) 4 [some (2, 80)] [(0, (ffI (mem 81) (mem 80 1)))] mem _
  exact zS_iret d_Mo_fault_4 rfl ⟨Nat.zero_le _, Nat.zero_le _⟩ ⟨rfl, rfl⟩
theorem s_Mo_numberAt (mem : zMem) (i : Int) (hi : 0 ≤ i ∧ i < 23) (hc : 0 ≤ mem 81 i ∧ mem 81 i ≤ 126) : zF m_Mo_numberAt [(2, 80), (0, i)] mem (fun r m => r = some (0, numAt (mem 81) i) ∧ m = mem) := by
  refine zF_of (by decide) (Nat.le_of_ble_eq_true rfl) ?_
  show zS zT m_Mo_numberAt (0, 0) 0 [some (2, 80), some (0, i)] [] mem _
  refine zV_aload_n d_Mo_numberAt_0 rfl ?_
  refine zS_getr (r := 81) d_Mo_numberAt_1 f_Mo_7 rfl rfl rfl ?_
  refine zV_iload_n d_Mo_numberAt_4 rfl ?_
  refine zS_iald d_Mo_numberAt_5 rfl rfl ⟨by omega, by omega⟩ ?_
  refine zV_bipush d_Mo_numberAt_6 ?_
  refine zV_icmp_ne d_Mo_numberAt_8 (by omega) (by omega) (fun c8 => ?_) (fun c8 => ?_)
  · refine zV_aload_n d_Mo_numberAt_25 rfl ?_
    refine zS_getr (r := 81) d_Mo_numberAt_26 f_Mo_7 rfl rfl rfl ?_
    refine zV_iload_n d_Mo_numberAt_29 rfl ?_
    refine zV_iconst d_Mo_numberAt_30 ?_
    refine zV_iadd d_Mo_numberAt_31 ?_
    refine zS_iald d_Mo_numberAt_32 rfl rfl ⟨by omega, by omega⟩ ?_
    refine zV_bipush d_Mo_numberAt_33 ?_
    refine zV_isub d_Mo_numberAt_35 ?_
    exact zS_iret d_Mo_numberAt_36 rfl ⟨Nat.zero_le _, Nat.zero_le _⟩ (by refine ⟨?_, rfl⟩; unfold numAt; first | (rw [if_pos (by omega)]; congr 2; omega) | rw [if_neg (by omega)])
  · refine zV_bipush d_Mo_numberAt_11 ?_
    refine zV_aload_n d_Mo_numberAt_13 rfl ?_
    refine zS_getr (r := 81) d_Mo_numberAt_14 f_Mo_7 rfl rfl rfl ?_
    refine zV_iload_n d_Mo_numberAt_17 rfl ?_
    refine zV_iconst d_Mo_numberAt_18 ?_
    refine zV_iadd d_Mo_numberAt_19 ?_
    refine zS_iald d_Mo_numberAt_20 rfl rfl ⟨by omega, by omega⟩ ?_
    refine zV_isub d_Mo_numberAt_21 ?_
    refine zV_goto d_Mo_numberAt_22 ?_
    exact zS_iret d_Mo_numberAt_36 rfl ⟨Nat.zero_le _, Nat.zero_le _⟩ (by refine ⟨?_, rfl⟩; unfold numAt; first | (rw [if_pos (by omega)]; congr 2; omega) | rw [if_neg (by omega)])
def nmM (mem : zMem) (k : Int) : zMem := zup (zup mem 85 k (mem 80 4)) 80 4 (mem 80 4 + 1)
theorem s_Mo_name (mem : zMem) (k : Int) (hk : 0 ≤ k ∧ k < 4) : zF m_Mo_name [(2, 80), (0, k)] mem (fun r m => r = none ∧ m = nmM mem k) := by
  refine zF_of (by decide) (Nat.le_of_ble_eq_true rfl) ?_
  show zS zT m_Mo_name (0, 0) 0 [some (2, 80), some (0, k)] [] mem _
  refine zV_aload_n d_Mo_name_0 rfl ?_
  refine zS_getr (r := 85) d_Mo_name_1 f_Mo_22 rfl rfl rfl ?_
  refine zV_iload_n d_Mo_name_4 rfl ?_
  refine zV_aload_n d_Mo_name_5 rfl ?_
  refine zS_get d_Mo_name_6 f_Mo_72 rfl rfl ?_
  refine zS_iast d_Mo_name_9 rfl rfl ⟨by omega, by omega⟩ ?_
  refine zV_aload_n d_Mo_name_10 rfl ?_
  refine zV_dup d_Mo_name_11 (show (2 : Nat) ≠ 1 by decide) ?_
  refine zS_get d_Mo_name_12 f_Mo_72 rfl rfl ?_
  rw [show (zup mem 85 k (mem 80 4)) 80 4 = (mem 80 4) from zup_c (by omega)]
  refine zV_iconst d_Mo_name_15 ?_
  refine zV_iadd d_Mo_name_16 ?_
  refine zS_puti d_Mo_name_17 f_Mo_72 rfl ⟨rfl, rfl⟩ rfl ?_
  exact zS_vret d_Mo_name_20 rfl ⟨Nat.zero_le _, Nat.zero_le _⟩ ⟨rfl, rfl⟩
theorem s_Mo_dice (mem : zMem) (v : Int) (hv : I32 v) (h1 : 0 ≤ mem 80 24 ∧ mem 80 24 < 2147483648) : zF m_Mo_dice [(2, 80), (0, v)] mem (fun r m => ((1 ≤ v ∧ v ≤ 1000) ∧ r = some (0, (1103515245 * mem 80 24 + 12345) % 2147483648 / 65536 % v) ∧ m = zup mem 80 24 ((1103515245 * mem 80 24 + 12345) % 2147483648)) ∨ (¬ (1 ≤ v ∧ v ≤ 1000) ∧ r = some (0, -102) ∧ m = mem)) := by
  refine zF_of (by decide) (Nat.le_of_ble_eq_true rfl) ?_
  show zS zT m_Mo_dice (0, 0) 0 [some (2, 80), some (0, v)] [] mem _
  refine zV_iload_n d_Mo_dice_0 rfl ?_
  refine zV_i2l d_Mo_dice_1 (by omega) ?_
  refine zV_lconst1 d_Mo_dice_2 ?_
  refine zV_ldc2 (a := 1000) d_Mo_dice_3 n_Mo_290 rfl ?_
  refine zS_invsE (mt' := m_Mo_in) (avs := [(1, v), (1, 1), (1, 1000)]) (st := []) d_Mo_dice_6 l_Mo_80 k_Mo_in rfl rfl rfl rfl (s_Mo_in mem v 1 1000 (by omega) (by omega) (by omega)) ?_
  show zS zT m_Mo_dice (0, 0) 9 [some (2, 80), some (0, v)] [(0, (zb (1 ≤ v ∧ v ≤ 1000)))] mem _
  refine zV_ifb_ne d_Mo_dice_9 (fun c9 => ?_) (fun c9 => ?_)
  · refine zV_aload_n d_Mo_dice_15 rfl ?_
    refine zV_ldc2 (a := 1103515245) d_Mo_dice_16 n_Mo_315 rfl ?_
    refine zV_aload_n d_Mo_dice_19 rfl ?_
    refine zS_get d_Mo_dice_20 f_Mo_75 rfl rfl ?_
    refine zV_i2l d_Mo_dice_23 (by omega) ?_
    refine zV_lmul d_Mo_dice_24 ?_
    refine zV_ldc2 (a := 12345) d_Mo_dice_25 n_Mo_317 rfl ?_
    refine zV_ladd d_Mo_dice_28 ?_
    refine zV_ldc2 (a := 2147483647) d_Mo_dice_29 n_Mo_319 rfl ?_
    refine zV_land 31 d_Mo_dice_32 ⟨by decide, rfl⟩ ?_
    refine zV_l2i d_Mo_dice_33 ?_
    refine zS_puti d_Mo_dice_34 f_Mo_75 rfl ⟨rfl, rfl⟩ rfl ?_
    refine zV_aload_n d_Mo_dice_37 rfl ?_
    refine zS_get d_Mo_dice_38 f_Mo_75 rfl rfl ?_
    rw [show (zup mem 80 24 (((1103515245 * (mem 80 24)) + 12345) % 2 ^ 31)) 80 24 = (((1103515245 * (mem 80 24)) + 12345) % 2 ^ 31) from zup_s]
    refine zV_ldcw (a := 65536) d_Mo_dice_41 n_Mo_321 rfl ?_
    refine zV_idiv_p d_Mo_dice_44 (by omega) (by omega) ?_
    refine zV_iload_n d_Mo_dice_45 rfl ?_
    refine zV_irem_p d_Mo_dice_46 (by omega) (by omega) ?_
    exact zS_iret d_Mo_dice_47 rfl ⟨Nat.zero_le _, Nat.zero_le _⟩ (Or.inl ⟨by omega, rfl, rfl⟩)
  · refine zV_bipush d_Mo_dice_12 ?_
    exact zS_iret d_Mo_dice_14 rfl ⟨Nat.zero_le _, Nat.zero_le _⟩ (Or.inr ⟨by omega, rfl, rfl⟩)
theorem s_Mo_latest (mem : zMem) (v : Int) (hv : I32 v) (h2 : 0 ≤ mem 80 20 ∧ mem 80 20 ≤ 8) : zF m_Mo_latest [(2, 80), (0, v)] mem (fun r m => r = some (0, if 0 ≤ v ∧ v < mem 80 20 then mem 92 v else -101) ∧ m = mem) := by
  refine zF_of (by decide) (Nat.le_of_ble_eq_true rfl) ?_
  show zS zT m_Mo_latest (0, 0) 0 [some (2, 80), some (0, v)] [] mem _
  refine zV_iload_n d_Mo_latest_0 rfl ?_
  refine zV_i2l d_Mo_latest_1 (by omega) ?_
  refine zV_lconst0 d_Mo_latest_2 ?_
  refine zV_aload_n d_Mo_latest_3 rfl ?_
  refine zS_get d_Mo_latest_4 f_Mo_260 rfl rfl ?_
  refine zV_iconst d_Mo_latest_7 ?_
  refine zV_isub d_Mo_latest_8 ?_
  refine zV_i2l d_Mo_latest_9 (by omega) ?_
  refine zS_invsE (mt' := m_Mo_in) (avs := [(1, v), (1, 0), (1, ((mem 80 20) - 1))]) (st := []) d_Mo_latest_10 l_Mo_80 k_Mo_in rfl rfl rfl rfl (s_Mo_in mem v 0 ((mem 80 20) - 1) (by omega) (by omega) (by omega)) ?_
  show zS zT m_Mo_latest (0, 0) 13 [some (2, 80), some (0, v)] [(0, (zb (0 ≤ v ∧ v ≤ ((mem 80 20) - 1))))] mem _
  refine zV_ifb_eq d_Mo_latest_13 (fun c13 => ?_) (fun c13 => ?_)
  · refine zV_bipush d_Mo_latest_25 ?_
    exact zS_iret d_Mo_latest_27 rfl ⟨Nat.zero_le _, Nat.zero_le _⟩ (by refine ⟨?_, rfl⟩; (repeat' split) <;> first | rfl | (exfalso; omega))
  · refine zV_aload_n d_Mo_latest_16 rfl ?_
    refine zS_getr (r := 92) d_Mo_latest_17 f_Mo_44 rfl rfl rfl ?_
    refine zV_iload_n d_Mo_latest_20 rfl ?_
    refine zS_iald d_Mo_latest_21 rfl rfl ⟨by omega, by omega⟩ ?_
    refine zV_goto d_Mo_latest_22 ?_
    exact zS_iret d_Mo_latest_27 rfl ⟨Nat.zero_le _, Nat.zero_le _⟩ (by refine ⟨?_, rfl⟩; (repeat' split) <;> first | rfl | (exfalso; omega))
theorem s_Mo_say (mem : zMem) (v : Int) : zF m_Mo_say [(2, 80), (1, v)] mem (fun r m => r = none ∧ m = zup mem 80 33 (31 * mem 80 33 + v)) := by
  refine zF_of (by decide) (Nat.le_of_ble_eq_true rfl) ?_
  show zS zT m_Mo_say (0, 0) 0 [some (2, 80), some (1, v), none] [] mem _
  refine zV_aload_n d_Mo_say_0 rfl ?_
  refine zV_ldc2 (a := 31) d_Mo_say_1 n_Mo_341 rfl ?_
  refine zV_aload_n d_Mo_say_4 rfl ?_
  refine zS_get d_Mo_say_5 f_Mo_343 rfl rfl ?_
  refine zV_lmul d_Mo_say_8 ?_
  refine zV_lload_n d_Mo_say_9 rfl ?_
  refine zV_ladd d_Mo_say_10 ?_
  refine zS_putl d_Mo_say_11 f_Mo_343 rfl ⟨rfl, rfl⟩ rfl ?_
  exact zS_vret d_Mo_say_14 rfl ⟨Nat.zero_le _, Nat.zero_le _⟩ ⟨rfl, rfl⟩
def moK (mem : zMem) : Prop := (0 ≤ mem 80 2 ∧ mem 80 2 ≤ 4) ∧ ∀ k, 0 ≤ k → k < 4 → (0 ≤ mem 82 k ∧ mem 82 k ≤ 4) ∧ (-9 ≤ mem 83 k ∧ mem 83 k ≤ 9) ∧ (-9 ≤ mem 84 k ∧ mem 84 k ≤ 9)
theorem s_Mo_square (mem : zMem) (k : Int) (hK : moK mem) (hk : 0 ≤ k ∧ k < 4) : zF m_Mo_square [(2, 80), (0, k)] mem (fun r m => r = some (0, sqK (mem 82 k)) ∧ m = mem) := by
  have kk := hK.2 k hk.1 hk.2
  refine zF_of (by decide) (Nat.le_of_ble_eq_true rfl) ?_
  show zS zT m_Mo_square (0, 0) 0 [some (2, 80), some (0, k)] [] mem _
  refine zV_aload_n d_Mo_square_0 rfl ?_
  refine zS_getr (r := 82) d_Mo_square_1 f_Mo_13 rfl rfl rfl ?_
  refine zV_iload_n d_Mo_square_4 rfl ?_
  refine zS_iald d_Mo_square_5 rfl rfl ⟨by omega, by omega⟩ ?_
  refine zS_invsE (mt' := m_Mo_squareBy) (avs := [(0, (mem 82 k))]) (st := []) d_Mo_square_6 l_Mo_123 k_Mo_squareBy rfl rfl rfl rfl (s_Mo_squareBy mem (mem 82 k) (by omega)) ?_
  show zS zT m_Mo_square (0, 0) 9 [some (2, 80), some (0, k)] [(0, (sqK (mem 82 k)))] mem _
  exact zS_iret d_Mo_square_9 rfl ⟨Nat.zero_le _, Nat.zero_le _⟩ ⟨rfl, rfl⟩
theorem s_Mo_slope (mem : zMem) (k : Int) (hK : moK mem) (hk : 0 ≤ k ∧ k < 4) : zF m_Mo_slope [(2, 80), (0, k)] mem (fun r m => r = some (0, slK (mem 82 k) (mem 83 k)) ∧ m = mem) := by
  have kk := hK.2 k hk.1 hk.2
  refine zF_of (by decide) (Nat.le_of_ble_eq_true rfl) ?_
  show zS zT m_Mo_slope (0, 0) 0 [some (2, 80), some (0, k)] [] mem _
  refine zV_aload_n d_Mo_slope_0 rfl ?_
  refine zS_getr (r := 82) d_Mo_slope_1 f_Mo_13 rfl rfl rfl ?_
  refine zV_iload_n d_Mo_slope_4 rfl ?_
  refine zS_iald d_Mo_slope_5 rfl rfl ⟨by omega, by omega⟩ ?_
  refine zV_iconst d_Mo_slope_6 ?_
  refine zV_icmp_ne d_Mo_slope_7 (by omega) (by omega) (fun c7 => ?_) (fun c7 => ?_)
  · refine zV_aload_n d_Mo_slope_14 rfl ?_
    refine zS_getr (r := 83) d_Mo_slope_15 f_Mo_16 rfl rfl rfl ?_
    refine zV_iload_n d_Mo_slope_18 rfl ?_
    refine zS_iald d_Mo_slope_19 rfl rfl ⟨by omega, by omega⟩ ?_
    exact zS_iret d_Mo_slope_20 rfl ⟨Nat.zero_le _, Nat.zero_le _⟩ (by refine ⟨?_, rfl⟩; unfold slK; (repeat' split) <;> first | rfl | omega)
  · refine zV_iconst d_Mo_slope_10 ?_
    refine zV_goto d_Mo_slope_11 ?_
    exact zS_iret d_Mo_slope_20 rfl ⟨Nat.zero_le _, Nat.zero_le _⟩ (by refine ⟨?_, rfl⟩; unfold slK; (repeat' split) <;> first | rfl | omega)
theorem s_Mo_isFlat (mem : zMem) (k : Int) (hK : moK mem) (hk : 0 ≤ k ∧ k < 4) : zF m_Mo_isFlat [(2, 80), (0, k)] mem (fun r m => r = some (0, zb (mem 82 k = 3)) ∧ m = mem) := by
  have kk := hK.2 k hk.1 hk.2
  refine zF_of (by decide) (Nat.le_of_ble_eq_true rfl) ?_
  show zS zT m_Mo_isFlat (0, 0) 0 [some (2, 80), some (0, k)] [] mem _
  refine zV_aload_n d_Mo_isFlat_0 rfl ?_
  refine zS_getr (r := 82) d_Mo_isFlat_1 f_Mo_13 rfl rfl rfl ?_
  refine zV_iload_n d_Mo_isFlat_4 rfl ?_
  refine zS_iald d_Mo_isFlat_5 rfl rfl ⟨by omega, by omega⟩ ?_
  refine zV_iconst d_Mo_isFlat_6 ?_
  refine zV_icmp_ne d_Mo_isFlat_7 (by omega) (by omega) (fun c7 => ?_) (fun c7 => ?_)
  · refine zV_iconst d_Mo_isFlat_14 ?_
    exact zS_zret d_Mo_isFlat_15 rfl ⟨Nat.zero_le _, Nat.zero_le _⟩ (Or.inl rfl) (by refine ⟨?_, rfl⟩; first | rw [zb_t (by omega)] | rw [zb_f (by omega)])
  · refine zV_iconst d_Mo_isFlat_10 ?_
    refine zV_goto d_Mo_isFlat_11 ?_
    exact zS_zret d_Mo_isFlat_15 rfl ⟨Nat.zero_le _, Nat.zero_le _⟩ (Or.inr rfl) (by refine ⟨?_, rfl⟩; first | rw [zb_t (by omega)] | rw [zb_f (by omega)])
def smP (mem : zMem) (a b : Int) : Prop := sqK (mem 82 a) = sqK (mem 82 b) ∧ slK (mem 82 a) (mem 83 a) = slK (mem 82 b) (mem 83 b) ∧ mem 84 a = mem 84 b
theorem s_Mo_isSame (mem : zMem) (a b : Int) (hK : moK mem) (ha : 0 ≤ a ∧ a < 4) (hb : 0 ≤ b ∧ b < 4) : zF m_Mo_isSame [(2, 80), (0, a), (0, b)] mem (fun r m => r = some (0, zb (smP mem a b)) ∧ m = mem) := by
  have ka := hK.2 a ha.1 ha.2
  have kb := hK.2 b hb.1 hb.2
  have qa := sqK_r (mem 82 a)
  have qb := sqK_r (mem 82 b)
  have la := slK_r (k := mem 82 a) ka.2.1
  have lb := slK_r (k := mem 82 b) kb.2.1
  refine zF_of (by decide) (Nat.le_of_ble_eq_true rfl) ?_
  show zS zT m_Mo_isSame (0, 0) 0 [some (2, 80), some (0, a), some (0, b)] [] mem _
  refine zV_aload_n d_Mo_isSame_0 rfl ?_
  refine zV_iload_n d_Mo_isSame_1 rfl ?_
  refine zS_invvE (mt' := m_Mo_square) (avs := [(0, a)]) (st := []) d_Mo_isSame_2 l_Mo_126 k_Mo_square rfl rfl rfl rfl rfl (s_Mo_square mem a hK (by omega)) ?_
  show zS zT m_Mo_isSame (0, 0) 5 [some (2, 80), some (0, a), some (0, b)] [(0, (sqK (mem 82 a)))] mem _
  refine zV_aload_n d_Mo_isSame_5 rfl ?_
  refine zV_iload_n d_Mo_isSame_6 rfl ?_
  refine zS_invvE (mt' := m_Mo_square) (avs := [(0, b)]) (st := [(0, (sqK (mem 82 a)))]) d_Mo_isSame_7 l_Mo_126 k_Mo_square rfl rfl rfl rfl rfl (s_Mo_square mem b hK (by omega)) ?_
  show zS zT m_Mo_isSame (0, 0) 10 [some (2, 80), some (0, a), some (0, b)] [(0, (sqK (mem 82 b))), (0, (sqK (mem 82 a)))] mem _
  refine zV_icmp_ne d_Mo_isSame_10 (by omega) (by omega) (fun c10 => ?_) (fun c10 => ?_)
  · refine zV_iconst d_Mo_isSame_45 ?_
    exact zS_zret d_Mo_isSame_46 rfl ⟨Nat.zero_le _, Nat.zero_le _⟩ (Or.inl rfl) (by refine ⟨?_, rfl⟩; first | rw [zb_t (show smP mem a b by unfold smP; omega)] | rw [zb_f (show ¬ smP mem a b by unfold smP; omega)])
  · refine zV_aload_n d_Mo_isSame_13 rfl ?_
    refine zV_iload_n d_Mo_isSame_14 rfl ?_
    refine zS_invvE (mt' := m_Mo_slope) (avs := [(0, a)]) (st := []) d_Mo_isSame_15 l_Mo_129 k_Mo_slope rfl rfl rfl rfl rfl (s_Mo_slope mem a hK (by omega)) ?_
    show zS zT m_Mo_isSame (0, 0) 18 [some (2, 80), some (0, a), some (0, b)] [(0, (slK (mem 82 a) (mem 83 a)))] mem _
    refine zV_aload_n d_Mo_isSame_18 rfl ?_
    refine zV_iload_n d_Mo_isSame_19 rfl ?_
    refine zS_invvE (mt' := m_Mo_slope) (avs := [(0, b)]) (st := [(0, (slK (mem 82 a) (mem 83 a)))]) d_Mo_isSame_20 l_Mo_129 k_Mo_slope rfl rfl rfl rfl rfl (s_Mo_slope mem b hK (by omega)) ?_
    show zS zT m_Mo_isSame (0, 0) 23 [some (2, 80), some (0, a), some (0, b)] [(0, (slK (mem 82 b) (mem 83 b))), (0, (slK (mem 82 a) (mem 83 a)))] mem _
    refine zV_icmp_ne d_Mo_isSame_23 (by omega) (by omega) (fun c23 => ?_) (fun c23 => ?_)
    · refine zV_iconst d_Mo_isSame_45 ?_
      exact zS_zret d_Mo_isSame_46 rfl ⟨Nat.zero_le _, Nat.zero_le _⟩ (Or.inl rfl) (by refine ⟨?_, rfl⟩; first | rw [zb_t (show smP mem a b by unfold smP; omega)] | rw [zb_f (show ¬ smP mem a b by unfold smP; omega)])
    · refine zV_aload_n d_Mo_isSame_26 rfl ?_
      refine zS_getr (r := 84) d_Mo_isSame_27 f_Mo_19 rfl rfl rfl ?_
      refine zV_iload_n d_Mo_isSame_30 rfl ?_
      refine zS_iald d_Mo_isSame_31 rfl rfl ⟨by omega, by omega⟩ ?_
      refine zV_aload_n d_Mo_isSame_32 rfl ?_
      refine zS_getr (r := 84) d_Mo_isSame_33 f_Mo_19 rfl rfl rfl ?_
      refine zV_iload_n d_Mo_isSame_36 rfl ?_
      refine zS_iald d_Mo_isSame_37 rfl rfl ⟨by omega, by omega⟩ ?_
      refine zV_icmp_ne d_Mo_isSame_38 (by omega) (by omega) (fun c38 => ?_) (fun c38 => ?_)
      · refine zV_iconst d_Mo_isSame_45 ?_
        exact zS_zret d_Mo_isSame_46 rfl ⟨Nat.zero_le _, Nat.zero_le _⟩ (Or.inl rfl) (by refine ⟨?_, rfl⟩; first | rw [zb_t (show smP mem a b by unfold smP; omega)] | rw [zb_f (show ¬ smP mem a b by unfold smP; omega)])
      · refine zV_iconst d_Mo_isSame_41 ?_
        refine zV_goto d_Mo_isSame_42 ?_
        exact zS_zret d_Mo_isSame_46 rfl ⟨Nat.zero_le _, Nat.zero_le _⟩ (Or.inr rfl) (by refine ⟨?_, rfl⟩; first | rw [zb_t (show smP mem a b by unfold smP; omega)] | rw [zb_f (show ¬ smP mem a b by unfold smP; omega)])
