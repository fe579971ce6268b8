/-! appending: letters, sights, curves -/
noncomputable def apP (mem : zMem) (c : Int) : zMem := cif (mem 1 1 < 24) (zup (zup mem 2 (mem 1 1) c) 1 1 (mem 1 1 + 1)) mem
noncomputable def apR2 (mem : zMem) (t k b c n : Int) : zMem := cif (mem t 1 < 4) (apR mem t k b c n) mem
noncomputable def apS2 (mem : zMem) (t k x y w : Int) : zMem := cif (mem t 4 < 6) (apS mem t k x y w) mem
theorem s_Pa_append2 (mem : zMem) (c : Int) (h : 0 ≤ mem 1 1 ∧ mem 1 1 ≤ 24) : zF m_Pa_append [(2, 1), (0, c)] mem (fun r m => r = some (0, zb (mem 1 1 < 24)) ∧ m = apP mem c) := by
  unfold apP
  refine zF_of (by decide) (Nat.le_of_ble_eq_true rfl) ?_
  show zS zT m_Pa_append (0, 0) 0 [some (2, 1), some (0, c)] [] mem _
  refine zV_aload_n d_Pa_append_0 rfl ?_
  refine zS_get d_Pa_append_1 f_Pa_15 rfl rfl ?_
  refine zV_bipush d_Pa_append_4 ?_
  refine zV_icmp_lt d_Pa_append_6 (by omega) (by omega) (fun c6 => ?_) (fun c6 => ?_)
  · refine zV_aload_n d_Pa_append_11 rfl ?_
    refine zS_getr (r := 2) d_Pa_append_12 f_Pa_11 rfl rfl rfl ?_
    refine zV_aload_n d_Pa_append_15 rfl ?_
    refine zS_get d_Pa_append_16 f_Pa_15 rfl rfl ?_
    refine zV_iload_n d_Pa_append_19 rfl ?_
    refine zS_iast d_Pa_append_20 rfl rfl ⟨by omega, by omega⟩ ?_
    refine zV_aload_n d_Pa_append_21 rfl ?_
    refine zV_dup d_Pa_append_22 (show (2 : Nat) ≠ 1 by decide) ?_
    refine zS_get d_Pa_append_23 f_Pa_15 rfl rfl ?_
    rw [show (zup mem 2 (mem 1 1) c) 1 1 = (mem 1 1) from zup_c (by omega)]
    refine zV_iconst d_Pa_append_26 ?_
    refine zV_iadd d_Pa_append_27 ?_
    refine zS_puti d_Pa_append_28 f_Pa_15 rfl ⟨rfl, rfl⟩ rfl ?_
    refine zV_iconst d_Pa_append_31 ?_
    exact zS_zret d_Pa_append_32 rfl ⟨Nat.zero_le _, Nat.zero_le _⟩ (Or.inr rfl) (by first | (rw [zb_t (show mem 1 1 < 24 by omega), cif_t (show mem 1 1 < 24 by omega)]; exact ⟨rfl, rfl⟩) | (rw [zb_f (show ¬ mem 1 1 < 24 by omega), cif_f (show ¬ mem 1 1 < 24 by omega)]; exact ⟨rfl, rfl⟩))
  · refine zV_iconst d_Pa_append_9 ?_
    exact zS_zret d_Pa_append_10 rfl ⟨Nat.zero_le _, Nat.zero_le _⟩ (Or.inl rfl) (by first | (rw [zb_t (show mem 1 1 < 24 by omega), cif_t (show mem 1 1 < 24 by omega)]; exact ⟨rfl, rfl⟩) | (rw [zb_f (show ¬ mem 1 1 < 24 by omega), cif_f (show ¬ mem 1 1 < 24 by omega)]; exact ⟨rfl, rfl⟩))
theorem s_Rw_append2 (mem : zMem) (t k b c n : Int) (h : isRw t) (hn : 0 ≤ mem t 1 ∧ mem t 1 ≤ 4) : zF m_Rw_append [(2, t), (0, k), (0, b), (0, c), (0, n)] mem (fun r m => r = some (0, zb (mem t 1 < 4)) ∧ m = apR2 mem t k b c n) := by
  unfold apR2
  refine zF_of (by decide) (Nat.le_of_ble_eq_true rfl) ?_
  show zS zT m_Rw_append (0, 0) 0 [some (2, t), some (0, k), some (0, b), some (0, c), some (0, n)] [] mem _
  refine zV_aload_n d_Rw_append_0 rfl ?_
  refine zS_get d_Rw_append_1 f_Rw_17 (kRw0 h) rfl ?_
  refine zV_iconst d_Rw_append_4 ?_
  refine zV_icmp_lt d_Rw_append_5 (by omega) (by omega) (fun c5 => ?_) (fun c5 => ?_)
  · refine zV_aload_n d_Rw_append_10 rfl ?_
    refine zS_getr (r := (t + 1)) d_Rw_append_11 f_Rw_11 (kRw0 h) rfl rfl ?_
    refine zV_aload_n d_Rw_append_14 rfl ?_
    refine zS_get d_Rw_append_15 f_Rw_17 (kRw0 h) rfl ?_
    refine zS_ald15 (r := (t + 2 + (mem t 1))) d_Rw_append_18 (kRw1 h) rfl ⟨by omega, by omega⟩ (by omega) ?_
    refine zV_iload_n d_Rw_append_19 rfl ?_
    refine zV_iload_n d_Rw_append_20 rfl ?_
    refine zV_iload_n d_Rw_append_21 rfl ?_
    refine zV_iload d_Rw_append_22 rfl ?_
    refine zS_invvE (mt' := m_Cu_write) (avs := [(0, k), (0, b), (0, c), (0, n)]) (st := []) d_Rw_append_24 l_Rw_22 k_Cu_write (kRwc h (by omega) (by omega)) rfl rfl rfl rfl (s_Cu_write mem (t + 2 + (mem t 1)) k b c n (kRwc h (by omega) (by omega))) ?_
    show zS zT m_Rw_append (0, 0) 27 [some (2, t), some (0, k), some (0, b), some (0, c), some (0, n)] [] (zup (zup (zup (zup mem (t + 2 + (mem t 1)) 0 k) (t + 2 + (mem t 1)) 1 b) (t + 2 + (mem t 1)) 2 c) (t + 2 + (mem t 1)) 3 n) _
    refine zV_aload_n d_Rw_append_27 rfl ?_
    refine zV_dup d_Rw_append_28 (show (2 : Nat) ≠ 1 by decide) ?_
    refine zS_get d_Rw_append_29 f_Rw_17 (kRw0 h) rfl ?_
    rw [show (zup (zup (zup (zup mem (t + 2 + (mem t 1)) 0 k) (t + 2 + (mem t 1)) 1 b) (t + 2 + (mem t 1)) 2 c) (t + 2 + (mem t 1)) 3 n) t 1 = (mem t 1) from (zup_c (by omega)).trans ((zup_c (by omega)).trans ((zup_c (by omega)).trans (zup_c (by omega))))]
    refine zV_iconst d_Rw_append_32 ?_
    refine zV_iadd d_Rw_append_33 ?_
    refine zS_puti d_Rw_append_34 f_Rw_17 (kRw0 h) ⟨rfl, rfl⟩ rfl ?_
    refine zV_iconst d_Rw_append_37 ?_
    exact zS_zret d_Rw_append_38 rfl ⟨Nat.zero_le _, Nat.zero_le _⟩ (Or.inr rfl) (by first | (rw [zb_t (show mem t 1 < 4 by omega), cif_t (show mem t 1 < 4 by omega)]; exact ⟨rfl, rfl⟩) | (rw [zb_f (show ¬ mem t 1 < 4 by omega), cif_f (show ¬ mem t 1 < 4 by omega)]; exact ⟨rfl, rfl⟩))
  · refine zV_iconst d_Rw_append_8 ?_
    exact zS_zret d_Rw_append_9 rfl ⟨Nat.zero_le _, Nat.zero_le _⟩ (Or.inl rfl) (by first | (rw [zb_t (show mem t 1 < 4 by omega), cif_t (show mem t 1 < 4 by omega)]; exact ⟨rfl, rfl⟩) | (rw [zb_f (show ¬ mem t 1 < 4 by omega), cif_f (show ¬ mem t 1 < 4 by omega)]; exact ⟨rfl, rfl⟩))
theorem s_Se_append2 (mem : zMem) (t k x y w : Int) (h : isSe t) (hn : 0 ≤ mem t 4 ∧ mem t 4 ≤ 6) : zF m_Se_append [(2, t), (0, k), (0, x), (0, y), (0, w)] mem (fun r m => r = some (0, zb (mem t 4 < 6)) ∧ m = apS2 mem t k x y w) := by
  unfold apS2
  refine zF_of (by decide) (Nat.le_of_ble_eq_true rfl) ?_
  show zS zT m_Se_append (0, 0) 0 [some (2, t), some (0, k), some (0, x), some (0, y), some (0, w)] [] mem _
  refine zV_aload_n d_Se_append_0 rfl ?_
  refine zS_get d_Se_append_1 f_Se_24 (kSe0 h) rfl ?_
  refine zV_bipush d_Se_append_4 ?_
  refine zV_icmp_lt d_Se_append_6 (by omega) (by omega) (fun c6 => ?_) (fun c6 => ?_)
  · refine zV_aload_n d_Se_append_11 rfl ?_
    refine zS_getr (r := (t + 1)) d_Se_append_12 f_Se_9 (kSe0 h) rfl rfl ?_
    refine zV_aload_n d_Se_append_15 rfl ?_
    refine zS_get d_Se_append_16 f_Se_24 (kSe0 h) rfl ?_
    refine zV_iload_n d_Se_append_19 rfl ?_
    refine zS_iast d_Se_append_20 (kSe1 h) rfl ⟨by omega, by omega⟩ ?_
    refine zV_aload_n d_Se_append_21 rfl ?_
    refine zS_getr (r := (t + 2)) d_Se_append_22 f_Se_15 (kSe0 h) rfl rfl ?_
    refine zV_aload_n d_Se_append_25 rfl ?_
    refine zS_get d_Se_append_26 f_Se_24 (kSe0 h) rfl ?_
    rw [show (zup mem (t + 1) (mem t 4) k) t 4 = (mem t 4) from zup_c (by omega)]
    refine zV_iload_n d_Se_append_29 rfl ?_
    refine zS_iast d_Se_append_30 (kSe2 h) rfl ⟨by omega, by omega⟩ ?_
    refine zV_aload_n d_Se_append_31 rfl ?_
    refine zS_getr (r := (t + 3)) d_Se_append_32 f_Se_18 (kSe0 h) rfl rfl ?_
    refine zV_aload_n d_Se_append_35 rfl ?_
    refine zS_get d_Se_append_36 f_Se_24 (kSe0 h) rfl ?_
    rw [show (zup (zup mem (t + 1) (mem t 4) k) (t + 2) (mem t 4) x) t 4 = (mem t 4) from (zup_c (by omega)).trans (zup_c (by omega))]
    refine zV_iload_n d_Se_append_39 rfl ?_
    refine zS_iast d_Se_append_40 (kSe3 h) rfl ⟨by omega, by omega⟩ ?_
    refine zV_aload_n d_Se_append_41 rfl ?_
    refine zS_getr (r := (t + 4)) d_Se_append_42 f_Se_21 (kSe0 h) rfl rfl ?_
    refine zV_aload_n d_Se_append_45 rfl ?_
    refine zS_get d_Se_append_46 f_Se_24 (kSe0 h) rfl ?_
    rw [show (zup (zup (zup mem (t + 1) (mem t 4) k) (t + 2) (mem t 4) x) (t + 3) (mem t 4) y) t 4 = (mem t 4) from (zup_c (by omega)).trans ((zup_c (by omega)).trans (zup_c (by omega)))]
    refine zV_iload d_Se_append_49 rfl ?_
    refine zS_iast d_Se_append_51 (kSe4 h) rfl ⟨by omega, by omega⟩ ?_
    refine zV_aload_n d_Se_append_52 rfl ?_
    refine zV_dup d_Se_append_53 (show (2 : Nat) ≠ 1 by decide) ?_
    refine zS_get d_Se_append_54 f_Se_24 (kSe0 h) rfl ?_
    rw [show (zup (zup (zup (zup mem (t + 1) (mem t 4) k) (t + 2) (mem t 4) x) (t + 3) (mem t 4) y) (t + 4) (mem t 4) w) t 4 = (mem t 4) from (zup_c (by omega)).trans ((zup_c (by omega)).trans ((zup_c (by omega)).trans (zup_c (by omega))))]
    refine zV_iconst d_Se_append_57 ?_
    refine zV_iadd d_Se_append_58 ?_
    refine zS_puti d_Se_append_59 f_Se_24 (kSe0 h) ⟨rfl, rfl⟩ rfl ?_
    refine zV_iconst d_Se_append_62 ?_
    exact zS_zret d_Se_append_63 rfl ⟨Nat.zero_le _, Nat.zero_le _⟩ (Or.inr rfl) (by first | (rw [zb_t (show mem t 4 < 6 by omega), cif_t (show mem t 4 < 6 by omega)]; exact ⟨rfl, rfl⟩) | (rw [zb_f (show ¬ mem t 4 < 6 by omega), cif_f (show ¬ mem t 4 < 6 by omega)]; exact ⟨rfl, rfl⟩))
  · refine zV_iconst d_Se_append_9 ?_
    exact zS_zret d_Se_append_10 rfl ⟨Nat.zero_le _, Nat.zero_le _⟩ (Or.inl rfl) (by first | (rw [zb_t (show mem t 4 < 6 by omega), cif_t (show mem t 4 < 6 by omega)]; exact ⟨rfl, rfl⟩) | (rw [zb_f (show ¬ mem t 4 < 6 by omega), cif_f (show ¬ mem t 4 < 6 by omega)]; exact ⟨rfl, rfl⟩))
theorem s_Cp_letter (mem : zMem) (c : Int) (hc : I32 c) (h : 0 ≤ mem 1 1 ∧ mem 1 1 ≤ 24) : zF m_Cp_letter [(2, 0), (0, c)] mem (fun r m => r = some (0, if 1 ≤ c ∧ c ≤ 126 then (if mem 1 1 < 24 then mem 1 1 + 1 else -104) else -102) ∧ m = cif (1 ≤ c ∧ c ≤ 126) (apP mem c) mem) := by
  have e1 : mem 1 1 < 24 → apP mem c 1 1 = mem 1 1 + 1 := fun q => by unfold apP; rw [cif_t q, zup_s]
  refine zF_of (by decide) (Nat.le_of_ble_eq_true rfl) ?_
  show zS zT m_Cp_letter (0, 0) 0 [some (2, 0), some (0, c)] [] mem _
  refine zV_iload_n d_Cp_letter_0 rfl ?_
  refine zV_iconst d_Cp_letter_1 ?_
  refine zV_icmp_lt d_Cp_letter_2 (by omega) (by omega) (fun c2 => ?_) (fun c2 => ?_)
  · refine zV_bipush d_Cp_letter_11 ?_
    exact zS_iret d_Cp_letter_13 rfl ⟨Nat.zero_le _, Nat.zero_le _⟩ (by rw [if_neg (by omega), cif_f (by omega)]; exact ⟨rfl, rfl⟩)
  · refine zV_iload_n d_Cp_letter_5 rfl ?_
    refine zV_bipush d_Cp_letter_6 ?_
    refine zV_icmp_le d_Cp_letter_8 (by omega) (by omega) (fun c8 => ?_) (fun c8 => ?_)
    · refine zV_aload_n d_Cp_letter_14 rfl ?_
      refine zS_getr (r := 1) d_Cp_letter_15 f_Cp_12 rfl rfl rfl ?_
      refine zV_iload_n d_Cp_letter_18 rfl ?_
      refine zS_invvE (mt' := m_Pa_append) (avs := [(0, c)]) (st := []) d_Cp_letter_19 l_Cp_91 k_Pa_append rfl rfl rfl rfl rfl (s_Pa_append2 mem c h) ?_
      show zS zT m_Cp_letter (0, 0) 22 [some (2, 0), some (0, c)] [(0, (zb (mem 1 1 < 24)))] (apP mem c) _
      refine zV_ifb_eq d_Cp_letter_22 (fun c22 => ?_) (fun c22 => ?_)
      · refine zV_bipush d_Cp_letter_35 ?_
        exact zS_iret d_Cp_letter_37 rfl ⟨Nat.zero_le _, Nat.zero_le _⟩ (by rw [if_pos (by omega), cif_t (by omega)]; first | (rw [if_neg (by omega)]; exact ⟨rfl, rfl⟩) | (rw [if_pos (by omega), e1 (by omega)]; exact ⟨rfl, rfl⟩))
      · refine zV_aload_n d_Cp_letter_25 rfl ?_
        refine zS_getr (r := 1) d_Cp_letter_26 f_Cp_12 rfl rfl rfl ?_
        refine zS_get d_Cp_letter_29 f_Cp_95 rfl rfl ?_
        refine zV_goto d_Cp_letter_32 ?_
        exact zS_iret d_Cp_letter_37 rfl ⟨Nat.zero_le _, Nat.zero_le _⟩ (by rw [if_pos (by omega), cif_t (by omega)]; first | (rw [if_neg (by omega)]; exact ⟨rfl, rfl⟩) | (rw [if_pos (by omega), e1 (by omega)]; exact ⟨rfl, rfl⟩))
    · refine zV_bipush d_Cp_letter_11 ?_
      exact zS_iret d_Cp_letter_13 rfl ⟨Nat.zero_le _, Nat.zero_le _⟩ (by rw [if_neg (by omega), cif_f (by omega)]; exact ⟨rfl, rfl⟩)
theorem s_Cp_see (mem : zMem) (i x y w : Int) (hi : I32 i) (hx : I32 x) (hy : I32 y) (hw : I32 w) (hr : 0 ≤ mem 3 1 ∧ mem 3 1 ≤ 4) (hn : 0 ≤ mem 21 4 ∧ mem 21 4 ≤ 6) : zF m_Cp_see [(2, 0), (0, i), (0, x), (0, y), (0, w)] mem (fun r m => r = some (0, if 0 ≤ i ∧ i < mem 3 1 then (if (-9 ≤ x ∧ x ≤ 9) ∧ (-9 ≤ y ∧ y ≤ 9) ∧ 0 ≤ w ∧ w ≤ 2 then (if mem 21 4 < 6 then mem 21 4 + 1 else -104) else -102) else -101) ∧ m = cif ((0 ≤ i ∧ i < mem 3 1) ∧ (-9 ≤ x ∧ x ≤ 9) ∧ (-9 ≤ y ∧ y ≤ 9) ∧ 0 ≤ w ∧ w ≤ 2) (apS2 mem 21 i x y w) mem) := by
  have e1 : mem 21 4 < 6 → apS2 mem 21 i x y w 21 4 = mem 21 4 + 1 := fun q => by unfold apS2 apS; rw [cif_t q, zup_s]
  refine zF_of (by decide) (Nat.le_of_ble_eq_true rfl) ?_
  show zS zT m_Cp_see (0, 0) 0 [some (2, 0), some (0, i), some (0, x), some (0, y), some (0, w)] [] mem _
  refine zV_aload_n d_Cp_see_0 rfl ?_
  refine zS_getr (r := 3) d_Cp_see_1 f_Cp_19 rfl rfl rfl ?_
  refine zV_iload_n d_Cp_see_4 rfl ?_
  refine zS_invvE (mt' := m_Rw_has) (avs := [(0, i)]) (st := []) d_Cp_see_5 l_Cp_123 k_Rw_has rfl rfl rfl rfl rfl (s_Rw_has mem 3 i (Or.inl rfl) (by omega) (by omega)) ?_
  show zS zT m_Cp_see (0, 0) 8 [some (2, 0), some (0, i), some (0, x), some (0, y), some (0, w)] [(0, (zb (0 ≤ i ∧ i < mem 3 1)))] mem _
  refine zV_ifb_ne d_Cp_see_8 (fun c8 => ?_) (fun c8 => ?_)
  · refine zV_iload_n d_Cp_see_14 rfl ?_
    refine zS_invsE (mt' := m_Cp_isNear) (avs := [(0, x)]) (st := []) d_Cp_see_15 l_Cp_196 k_Cp_isNear rfl rfl rfl rfl (s_Cp_isNear mem x (by omega)) ?_
    show zS zT m_Cp_see (0, 0) 18 [some (2, 0), some (0, i), some (0, x), some (0, y), some (0, w)] [(0, (zb (-9 ≤ x ∧ x ≤ 9)))] mem _
    refine zV_ifb_eq d_Cp_see_18 (fun c18 => ?_) (fun c18 => ?_)
    · refine zV_bipush d_Cp_see_39 ?_
      exact zS_iret d_Cp_see_41 rfl ⟨Nat.zero_le _, Nat.zero_le _⟩ (by rw [if_pos (by omega), if_neg (by omega), cif_f (by omega)]; exact ⟨rfl, rfl⟩)
    · refine zV_iload_n d_Cp_see_21 rfl ?_
      refine zS_invsE (mt' := m_Cp_isNear) (avs := [(0, y)]) (st := []) d_Cp_see_22 l_Cp_196 k_Cp_isNear rfl rfl rfl rfl (s_Cp_isNear mem y (by omega)) ?_
      show zS zT m_Cp_see (0, 0) 25 [some (2, 0), some (0, i), some (0, x), some (0, y), some (0, w)] [(0, (zb (-9 ≤ y ∧ y ≤ 9)))] mem _
      refine zV_ifb_eq d_Cp_see_25 (fun c25 => ?_) (fun c25 => ?_)
      · refine zV_bipush d_Cp_see_39 ?_
        exact zS_iret d_Cp_see_41 rfl ⟨Nat.zero_le _, Nat.zero_le _⟩ (by rw [if_pos (by omega), if_neg (by omega), cif_f (by omega)]; exact ⟨rfl, rfl⟩)
      · refine zV_iload d_Cp_see_28 rfl ?_
        refine zV_if_lt d_Cp_see_30 (by omega) (fun c30 => ?_) (fun c30 => ?_)
        · refine zV_bipush d_Cp_see_39 ?_
          exact zS_iret d_Cp_see_41 rfl ⟨Nat.zero_le _, Nat.zero_le _⟩ (by rw [if_pos (by omega), if_neg (by omega), cif_f (by omega)]; exact ⟨rfl, rfl⟩)
        · refine zV_iload d_Cp_see_33 rfl ?_
          refine zV_iconst d_Cp_see_35 ?_
          refine zV_icmp_le d_Cp_see_36 (by omega) (by omega) (fun c36 => ?_) (fun c36 => ?_)
          · refine zV_aload_n d_Cp_see_42 rfl ?_
            refine zS_getr (r := 21) d_Cp_see_43 f_Cp_32 rfl rfl rfl ?_
            refine zV_iload_n d_Cp_see_46 rfl ?_
            refine zV_iload_n d_Cp_see_47 rfl ?_
            refine zV_iload_n d_Cp_see_48 rfl ?_
            refine zV_iload d_Cp_see_49 rfl ?_
            refine zS_invvE (mt' := m_Se_append) (avs := [(0, i), (0, x), (0, y), (0, w)]) (st := []) d_Cp_see_51 l_Cp_231 k_Se_append rfl rfl rfl rfl rfl (s_Se_append2 mem 21 i x y w (Or.inl rfl) hn) ?_
            show zS zT m_Cp_see (0, 0) 54 [some (2, 0), some (0, i), some (0, x), some (0, y), some (0, w)] [(0, (zb (mem 21 4 < 6)))] (apS2 mem 21 i x y w) _
            refine zV_ifb_eq d_Cp_see_54 (fun c54 => ?_) (fun c54 => ?_)
            · refine zV_bipush d_Cp_see_67 ?_
              exact zS_iret d_Cp_see_69 rfl ⟨Nat.zero_le _, Nat.zero_le _⟩ (by rw [if_pos (by omega), if_pos (by omega), cif_t (by omega)]; first | (rw [if_neg (by omega)]; exact ⟨rfl, rfl⟩) | (rw [if_pos (by omega), e1 (by omega)]; exact ⟨rfl, rfl⟩))
            · refine zV_aload_n d_Cp_see_57 rfl ?_
              refine zS_getr (r := 21) d_Cp_see_58 f_Cp_32 rfl rfl rfl ?_
              refine zS_get d_Cp_see_61 f_Cp_118 rfl rfl ?_
              refine zV_goto d_Cp_see_64 ?_
              exact zS_iret d_Cp_see_69 rfl ⟨Nat.zero_le _, Nat.zero_le _⟩ (by rw [if_pos (by omega), if_pos (by omega), cif_t (by omega)]; first | (rw [if_neg (by omega)]; exact ⟨rfl, rfl⟩) | (rw [if_pos (by omega), e1 (by omega)]; exact ⟨rfl, rfl⟩))
          · refine zV_bipush d_Cp_see_39 ?_
            exact zS_iret d_Cp_see_41 rfl ⟨Nat.zero_le _, Nat.zero_le _⟩ (by rw [if_pos (by omega), if_neg (by omega), cif_f (by omega)]; exact ⟨rfl, rfl⟩)
  · refine zV_bipush d_Cp_see_11 ?_
    exact zS_iret d_Cp_see_13 rfl ⟨Nat.zero_le _, Nat.zero_le _⟩ (by rw [if_neg (by omega), cif_f (by omega)]; exact ⟨rfl, rfl⟩)
noncomputable def acM (mem : zMem) (k b c : Int) : zMem := cif (mem 3 1 < 4) (zup (apR mem 3 k b c (mem 0 15)) 0 15 (mem 0 15 + 1)) mem
theorem s_Cp_appendCurve (mem : zMem) (k b c : Int) (hn : 0 ≤ mem 3 1 ∧ mem 3 1 ≤ 4) : zF m_Cp_appendCurve [(2, 0), (0, k), (0, b), (0, c)] mem (fun r m => r = none ∧ m = acM mem k b c) := by
  unfold acM
  have e1 : mem 3 1 < 4 → apR2 mem 3 k b c (mem 0 15) = apR mem 3 k b c (mem 0 15) := fun q => by unfold apR2; rw [cif_t q]
  have e2 : ¬ mem 3 1 < 4 → apR2 mem 3 k b c (mem 0 15) = mem := fun q => by unfold apR2; rw [cif_f q]
  have e3 : mem 3 1 < 4 → apR mem 3 k b c (mem 0 15) 0 15 = mem 0 15 := fun q => by unfold apR; rw [zup_a (by decide), wrC_o (by omega)]
  refine zF_of (by decide) (Nat.le_of_ble_eq_true rfl) ?_
  show zS zT m_Cp_appendCurve (0, 0) 0 [some (2, 0), some (0, k), some (0, b), some (0, c)] [] mem _
  refine zV_aload_n d_Cp_appendCurve_0 rfl ?_
  refine zS_getr (r := 3) d_Cp_appendCurve_1 f_Cp_19 rfl rfl rfl ?_
  refine zV_iload_n d_Cp_appendCurve_4 rfl ?_
  refine zV_iload_n d_Cp_appendCurve_5 rfl ?_
  refine zV_iload_n d_Cp_appendCurve_6 rfl ?_
  refine zV_aload_n d_Cp_appendCurve_7 rfl ?_
  refine zS_get d_Cp_appendCurve_8 f_Cp_88 rfl rfl ?_
  refine zS_invvE (mt' := m_Rw_append) (avs := [(0, k), (0, b), (0, c), (0, (mem 0 15))]) (st := []) d_Cp_appendCurve_11 l_Cp_281 k_Rw_append rfl rfl rfl rfl rfl (s_Rw_append2 mem 3 k b c (mem 0 15) (Or.inl rfl) hn) ?_
  show zS zT m_Cp_appendCurve (0, 0) 14 [some (2, 0), some (0, k), some (0, b), some (0, c)] [(0, (zb (mem 3 1 < 4)))] (apR2 mem 3 k b c (mem 0 15)) _
  refine zV_ifb_eq d_Cp_appendCurve_14 (fun c14 => ?_) (fun c14 => ?_)
  · exact zS_vret d_Cp_appendCurve_27 rfl ⟨Nat.zero_le _, Nat.zero_le _⟩ (by first | (rw [cif_f (show ¬ mem 3 1 < 4 by omega), e2 (by omega)]; exact ⟨rfl, rfl⟩) | (rw [cif_t (show mem 3 1 < 4 by omega), e1 (by omega), e3 (by omega)]; exact ⟨rfl, rfl⟩))
  · refine zV_aload_n d_Cp_appendCurve_17 rfl ?_
    refine zV_dup d_Cp_appendCurve_18 (show (2 : Nat) ≠ 1 by decide) ?_
    refine zS_get d_Cp_appendCurve_19 f_Cp_88 rfl rfl ?_
    refine zV_iconst d_Cp_appendCurve_22 ?_
    refine zV_iadd d_Cp_appendCurve_23 ?_
    refine zS_puti d_Cp_appendCurve_24 f_Cp_88 rfl ⟨rfl, rfl⟩ rfl ?_
    exact zS_vret d_Cp_appendCurve_27 rfl ⟨Nat.zero_le _, Nat.zero_le _⟩ (by first | (rw [cif_f (show ¬ mem 3 1 < 4 by omega), e2 (by omega)]; exact ⟨rfl, rfl⟩) | (rw [cif_t (show mem 3 1 < 4 by omega), e1 (by omega), e3 (by omega)]; exact ⟨rfl, rfl⟩))
