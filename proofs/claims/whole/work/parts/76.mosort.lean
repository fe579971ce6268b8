/-! the reference: sorts, what to ask, curves told -/
theorem s_Mo_liesAt (mem : zMem) (k kd x y : Int) (hK : moK mem) (hk : 0 ≤ k ∧ k < 4) (hd : 0 ≤ kd ∧ kd ≤ 4) (hx : -9 ≤ x ∧ x ≤ 9) (hy : -9 ≤ y ∧ y ≤ 9) : zF m_Mo_liesAt [(2, 80), (0, k), (0, kd), (0, x), (0, y)] mem (fun r m => r = some (0, sdK kd (mem 83 k) (mem 84 k) x y) ∧ m = mem) := by
  have kk := hK.2 k hk.1 hk.2
  have q1 := mb (mb (sqK_r kd) hx) hx
  have q2 := mb kk.2.1 hx
  refine zF_of (by decide) (Nat.le_of_ble_eq_true rfl) ?_
  show zS zT m_Mo_liesAt (0, 0) 0 [some (2, 80), some (0, k), some (0, kd), some (0, x), some (0, y), none, none] [] mem _
  refine zV_iload_n d_Mo_liesAt_0 rfl ?_
  refine zS_invsE (mt' := m_Mo_squareBy) (avs := [(0, kd)]) (st := []) d_Mo_liesAt_1 l_Mo_123 k_Mo_squareBy rfl rfl rfl rfl (s_Mo_squareBy mem kd (by omega)) ?_
  show zS zT m_Mo_liesAt (0, 0) 4 [some (2, 80), some (0, k), some (0, kd), some (0, x), some (0, y), none, none] [(0, (sqK kd))] mem _
  refine zV_iload_n d_Mo_liesAt_4 rfl ?_
  refine zV_imul d_Mo_liesAt_5 ?_
  refine zV_iload_n d_Mo_liesAt_6 rfl ?_
  refine zV_imul d_Mo_liesAt_7 ?_
  refine zV_iload_n d_Mo_liesAt_8 rfl ?_
  refine zV_iconst d_Mo_liesAt_9 ?_
  refine zV_icmp_ne d_Mo_liesAt_10 (by omega) (by omega) (fun c10 => ?_) (fun c10 => ?_)
  · refine zV_aload_n d_Mo_liesAt_17 rfl ?_
    refine zS_getr (r := 83) d_Mo_liesAt_18 f_Mo_16 rfl rfl rfl ?_
    refine zV_iload_n d_Mo_liesAt_21 rfl ?_
    refine zS_iald d_Mo_liesAt_22 rfl rfl ⟨by omega, by omega⟩ ?_
    refine zV_iload_n d_Mo_liesAt_23 rfl ?_
    refine zV_imul d_Mo_liesAt_24 ?_
    refine zV_iadd d_Mo_liesAt_25 ?_
    refine zV_aload_n d_Mo_liesAt_26 rfl ?_
    refine zS_getr (r := 84) d_Mo_liesAt_27 f_Mo_19 rfl rfl rfl ?_
    refine zV_iload_n d_Mo_liesAt_30 rfl ?_
    refine zS_iald d_Mo_liesAt_31 rfl rfl ⟨by omega, by omega⟩ ?_
    refine zV_iadd d_Mo_liesAt_32 ?_
    refine zV_istore (L' := [some (2, 80), some (0, k), some (0, kd), some (0, x), some (0, y), some (0, (((((sqK kd) * x) * x) + ((mem 83 k) * x)) + (mem 84 k))), none]) d_Mo_liesAt_33 (by decide) rfl ?_
    refine zV_iload_n d_Mo_liesAt_35 rfl ?_
    refine zV_iconst d_Mo_liesAt_36 ?_
    refine zV_icmp_ne d_Mo_liesAt_37 (by omega) (by omega) (fun c37 => ?_) (fun c37 => ?_)
    · refine zV_iload d_Mo_liesAt_51 rfl ?_
      refine zV_iload d_Mo_liesAt_53 rfl ?_
      refine zV_isub d_Mo_liesAt_55 ?_
      refine zV_istore (L' := [some (2, 80), some (0, k), some (0, kd), some (0, x), some (0, y), some (0, (((((sqK kd) * x) * x) + ((mem 83 k) * x)) + (mem 84 k))), some (0, ((((((sqK kd) * x) * x) + ((mem 83 k) * x)) + (mem 84 k)) - y))]) d_Mo_liesAt_56 (by decide) rfl ?_
      refine zV_iload d_Mo_liesAt_58 rfl ?_
      refine zV_if_ge d_Mo_liesAt_60 (by omega) (fun c60 => ?_) (fun c60 => ?_)
      · refine zV_iload d_Mo_liesAt_67 rfl ?_
        refine zV_if_ne d_Mo_liesAt_69 (by omega) (fun c69 => ?_) (fun c69 => ?_)
        · refine zV_iconst d_Mo_liesAt_76 ?_
          exact zS_iret d_Mo_liesAt_77 rfl ⟨Nat.zero_le _, Nat.zero_le _⟩ (by refine ⟨?_, rfl⟩; congr 2; unfold sdK cmpI slK; (repeat' split) <;> omega)
        · refine zV_iconst d_Mo_liesAt_72 ?_
          refine zV_goto d_Mo_liesAt_73 ?_
          exact zS_iret d_Mo_liesAt_77 rfl ⟨Nat.zero_le _, Nat.zero_le _⟩ (by refine ⟨?_, rfl⟩; congr 2; unfold sdK cmpI slK; (repeat' split) <;> omega)
      · refine zV_iconst d_Mo_liesAt_63 ?_
        refine zV_goto d_Mo_liesAt_64 ?_
        exact zS_iret d_Mo_liesAt_77 rfl ⟨Nat.zero_le _, Nat.zero_le _⟩ (by refine ⟨?_, rfl⟩; congr 2; unfold sdK cmpI slK; (repeat' split) <;> omega)
    · refine zV_aload_n d_Mo_liesAt_40 rfl ?_
      refine zS_getr (r := 84) d_Mo_liesAt_41 f_Mo_19 rfl rfl rfl ?_
      refine zV_iload_n d_Mo_liesAt_44 rfl ?_
      refine zS_iald d_Mo_liesAt_45 rfl rfl ⟨by omega, by omega⟩ ?_
      refine zV_iload_n d_Mo_liesAt_46 rfl ?_
      refine zV_isub d_Mo_liesAt_47 ?_
      refine zV_goto d_Mo_liesAt_48 ?_
      refine zV_istore (L' := [some (2, 80), some (0, k), some (0, kd), some (0, x), some (0, y), some (0, (((((sqK kd) * x) * x) + ((mem 83 k) * x)) + (mem 84 k))), some (0, ((mem 84 k) - x))]) d_Mo_liesAt_56 (by decide) rfl ?_
      refine zV_iload d_Mo_liesAt_58 rfl ?_
      refine zV_if_ge d_Mo_liesAt_60 (by omega) (fun c60 => ?_) (fun c60 => ?_)
      · refine zV_iload d_Mo_liesAt_67 rfl ?_
        refine zV_if_ne d_Mo_liesAt_69 (by omega) (fun c69 => ?_) (fun c69 => ?_)
        · refine zV_iconst d_Mo_liesAt_76 ?_
          exact zS_iret d_Mo_liesAt_77 rfl ⟨Nat.zero_le _, Nat.zero_le _⟩ (by refine ⟨?_, rfl⟩; congr 2; unfold sdK cmpI slK; (repeat' split) <;> omega)
        · refine zV_iconst d_Mo_liesAt_72 ?_
          refine zV_goto d_Mo_liesAt_73 ?_
          exact zS_iret d_Mo_liesAt_77 rfl ⟨Nat.zero_le _, Nat.zero_le _⟩ (by refine ⟨?_, rfl⟩; congr 2; unfold sdK cmpI slK; (repeat' split) <;> omega)
      · refine zV_iconst d_Mo_liesAt_63 ?_
        refine zV_goto d_Mo_liesAt_64 ?_
        exact zS_iret d_Mo_liesAt_77 rfl ⟨Nat.zero_le _, Nat.zero_le _⟩ (by refine ⟨?_, rfl⟩; congr 2; unfold sdK cmpI slK; (repeat' split) <;> omega)
  · refine zV_iconst d_Mo_liesAt_13 ?_
    refine zV_goto d_Mo_liesAt_14 ?_
    refine zV_iadd d_Mo_liesAt_25 ?_
    refine zV_aload_n d_Mo_liesAt_26 rfl ?_
    refine zS_getr (r := 84) d_Mo_liesAt_27 f_Mo_19 rfl rfl rfl ?_
    refine zV_iload_n d_Mo_liesAt_30 rfl ?_
    refine zS_iald d_Mo_liesAt_31 rfl rfl ⟨by omega, by omega⟩ ?_
    refine zV_iadd d_Mo_liesAt_32 ?_
    refine zV_istore (L' := [some (2, 80), some (0, k), some (0, kd), some (0, x), some (0, y), some (0, (((((sqK kd) * x) * x) + 0) + (mem 84 k))), none]) d_Mo_liesAt_33 (by decide) rfl ?_
    refine zV_iload_n d_Mo_liesAt_35 rfl ?_
    refine zV_iconst d_Mo_liesAt_36 ?_
    refine zV_icmp_ne d_Mo_liesAt_37 (by omega) (by omega) (fun c37 => ?_) (fun c37 => ?_)
    · refine zV_iload d_Mo_liesAt_51 rfl ?_
      refine zV_iload d_Mo_liesAt_53 rfl ?_
      refine zV_isub d_Mo_liesAt_55 ?_
      refine zV_istore (L' := [some (2, 80), some (0, k), some (0, kd), some (0, x), some (0, y), some (0, (((((sqK kd) * x) * x) + 0) + (mem 84 k))), some (0, ((((((sqK kd) * x) * x) + 0) + (mem 84 k)) - y))]) d_Mo_liesAt_56 (by decide) rfl ?_
      refine zV_iload d_Mo_liesAt_58 rfl ?_
      refine zV_if_ge d_Mo_liesAt_60 (by omega) (fun c60 => ?_) (fun c60 => ?_)
      · refine zV_iload d_Mo_liesAt_67 rfl ?_
        refine zV_if_ne d_Mo_liesAt_69 (by omega) (fun c69 => ?_) (fun c69 => ?_)
        · refine zV_iconst d_Mo_liesAt_76 ?_
          exact zS_iret d_Mo_liesAt_77 rfl ⟨Nat.zero_le _, Nat.zero_le _⟩ (by refine ⟨?_, rfl⟩; congr 2; unfold sdK cmpI slK; (repeat' split) <;> omega)
        · refine zV_iconst d_Mo_liesAt_72 ?_
          refine zV_goto d_Mo_liesAt_73 ?_
          exact zS_iret d_Mo_liesAt_77 rfl ⟨Nat.zero_le _, Nat.zero_le _⟩ (by refine ⟨?_, rfl⟩; congr 2; unfold sdK cmpI slK; (repeat' split) <;> omega)
      · refine zV_iconst d_Mo_liesAt_63 ?_
        refine zV_goto d_Mo_liesAt_64 ?_
        exact zS_iret d_Mo_liesAt_77 rfl ⟨Nat.zero_le _, Nat.zero_le _⟩ (by refine ⟨?_, rfl⟩; congr 2; unfold sdK cmpI slK; (repeat' split) <;> omega)
    · refine zV_aload_n d_Mo_liesAt_40 rfl ?_
      refine zS_getr (r := 84) d_Mo_liesAt_41 f_Mo_19 rfl rfl rfl ?_
      refine zV_iload_n d_Mo_liesAt_44 rfl ?_
      refine zS_iald d_Mo_liesAt_45 rfl rfl ⟨by omega, by omega⟩ ?_
      refine zV_iload_n d_Mo_liesAt_46 rfl ?_
      refine zV_isub d_Mo_liesAt_47 ?_
      refine zV_goto d_Mo_liesAt_48 ?_
      refine zV_istore (L' := [some (2, 80), some (0, k), some (0, kd), some (0, x), some (0, y), some (0, (((((sqK kd) * x) * x) + 0) + (mem 84 k))), some (0, ((mem 84 k) - x))]) d_Mo_liesAt_56 (by decide) rfl ?_
      refine zV_iload d_Mo_liesAt_58 rfl ?_
      refine zV_if_ge d_Mo_liesAt_60 (by omega) (fun c60 => ?_) (fun c60 => ?_)
      · refine zV_iload d_Mo_liesAt_67 rfl ?_
        refine zV_if_ne d_Mo_liesAt_69 (by omega) (fun c69 => ?_) (fun c69 => ?_)
        · refine zV_iconst d_Mo_liesAt_76 ?_
          exact zS_iret d_Mo_liesAt_77 rfl ⟨Nat.zero_le _, Nat.zero_le _⟩ (by refine ⟨?_, rfl⟩; congr 2; unfold sdK cmpI slK; (repeat' split) <;> omega)
        · refine zV_iconst d_Mo_liesAt_72 ?_
          refine zV_goto d_Mo_liesAt_73 ?_
          exact zS_iret d_Mo_liesAt_77 rfl ⟨Nat.zero_le _, Nat.zero_le _⟩ (by refine ⟨?_, rfl⟩; congr 2; unfold sdK cmpI slK; (repeat' split) <;> omega)
      · refine zV_iconst d_Mo_liesAt_63 ?_
        refine zV_goto d_Mo_liesAt_64 ?_
        exact zS_iret d_Mo_liesAt_77 rfl ⟨Nat.zero_le _, Nat.zero_le _⟩ (by refine ⟨?_, rfl⟩; congr 2; unfold sdK cmpI slK; (repeat' split) <;> omega)
def okSM (mem : zMem) : Prop := (0 ≤ mem 80 22 ∧ mem 80 22 ≤ 6) ∧ ∀ j, 0 ≤ j → j < mem 80 22 → (0 ≤ mem 94 (4 * j) ∧ mem 94 (4 * j) ≤ 3) ∧ (-9 ≤ mem 94 (4 * j + 1) ∧ mem 94 (4 * j + 1) ≤ 9) ∧ (-9 ≤ mem 94 (4 * j + 2) ∧ mem 94 (4 * j + 2) ≤ 9) ∧ (0 ≤ mem 94 (4 * j + 3) ∧ mem 94 (4 * j + 3) ≤ 2)
def cbQ (mem : zMem) (k kd j : Int) : Prop := mem 94 (4 * j) = k → sdK kd (mem 83 k) (mem 84 k) (mem 94 (4 * j + 1)) (mem 94 (4 * j + 2)) = mem 94 (4 * j + 3)
def cbM (mem : zMem) (k kd : Int) : Prop := ∀ j, 0 ≤ j → j < mem 80 22 → cbQ mem k kd j
theorem or_z (a : Int) : Int32.ofInt a ||| Int32.ofInt 0 = Int32.ofInt a := Int32.or_zero
theorem s_Mo_sortsOf_15 (mem : zMem) (k : Int) (hK : moK mem) (hS : okSM mem) (hk : 0 ≤ k ∧ k < 4) (bits kd : Int) (hd : 0 ≤ kd ∧ kd ≤ 4) (Q9 : zQ2) (kk : zS zT m_Mo_sortsOf (0, 0) 91 [some (2, 80), some (0, k), some (0, bits), some (0, kd), some (0, (zb (cbM mem k kd))), none] [] mem (zQs Q9)) : ∀ (t : Int) (x : Int), (0 ≤ t ∧ t ≤ mem 80 22) → (x = zb (∀ i, 0 ≤ i → i < t → cbQ mem k kd i)) → zS zT m_Mo_sortsOf (0, 0) 15 [some (2, 80), some (0, k), some (0, bits), some (0, kd), some (0, x), some (0, (4 * t))] [] mem (zQs (Q9)) := by
  intro t x
  obtain ⟨k9, hk9⟩ : ∃ kq : Nat, (mem 80 22 - t).toNat = kq := ⟨_, rfl⟩
  induction k9 using Nat.strongRecOn generalizing t x with
  | _ k9 ih =>
    intro i0 i1
    have s1 := hS.1
    have s2 := hS.2 t i0.1
    have z1 := zb_01 (∀ i, 0 ≤ i → i < t → cbQ mem k kd i)
    refine zV_iload d_Mo_sortsOf_15 rfl ?_
    refine zV_iconst d_Mo_sortsOf_17 ?_
    refine zV_aload_n d_Mo_sortsOf_18 rfl ?_
    refine zS_get d_Mo_sortsOf_19 f_Mo_113 rfl rfl ?_
    refine zV_imul d_Mo_sortsOf_22 ?_
    refine zV_icmp_ge d_Mo_sortsOf_23 (by omega) (by omega) (fun c23 => ?_) (fun c23 => ?_)
    · rw [i1, show t = mem 80 22 by omega]
      refine zV_forget (L' := [some (2, 80), some (0, k), some (0, bits), some (0, kd), some (0, (zb (∀ i, 0 ≤ i → i < mem 80 22 → cbQ mem k kd i))), none]) (by simp [zle]) ?_
      exact kk
    · refine zV_iload d_Mo_sortsOf_26 rfl ?_
      refine zV_if_eq d_Mo_sortsOf_28 (by omega) (fun c28 => ?_) (fun c28 => ?_)
      · refine zV_iconst d_Mo_sortsOf_82 ?_
        refine zV_istore (L' := [some (2, 80), some (0, k), some (0, bits), some (0, kd), some (0, 0), some (0, (4 * t))]) d_Mo_sortsOf_83 (by decide) rfl ?_
        refine zV_iinc (L' := [some (2, 80), some (0, k), some (0, bits), some (0, kd), some (0, 0), some (0, ((4 * t) + 4))]) d_Mo_sortsOf_85 (by decide) rfl rfl ?_
        refine zV_goto d_Mo_sortsOf_88 ?_
        have hg1 : 0 = zb (∀ i, 0 ≤ i → i < t + 1 → cbQ mem k kd i) := by first | exact fl_a1 i0.1 i1 (by omega) (fun z => by first | exact absurd z (by assumption) | assumption) | exact fl_a0 i0.1 i1 (by omega) | exact fl_an i0.1 (fun z => absurd (z (by assumption)) (by assumption))
        rw [show 4 * t + 4 = 4 * (t + 1) by omega]
        exact ih _ (by omega) (t + 1) _ rfl (by omega) hg1
      · refine zV_aload_n d_Mo_sortsOf_31 rfl ?_
        refine zS_getr (r := 94) d_Mo_sortsOf_32 f_Mo_50 rfl rfl rfl ?_
        refine zV_iload d_Mo_sortsOf_35 rfl ?_
        refine zS_iald d_Mo_sortsOf_37 rfl rfl ⟨by omega, by omega⟩ ?_
        refine zV_iload_n d_Mo_sortsOf_38 rfl ?_
        refine zV_icmp_ne d_Mo_sortsOf_39 (by omega) (by omega) (fun c39 => ?_) (fun c39 => ?_)
        · refine zV_iconst d_Mo_sortsOf_78 ?_
          refine zV_goto d_Mo_sortsOf_79 ?_
          refine zV_istore (L' := [some (2, 80), some (0, k), some (0, bits), some (0, kd), some (0, 1), some (0, (4 * t))]) d_Mo_sortsOf_83 (by decide) rfl ?_
          refine zV_iinc (L' := [some (2, 80), some (0, k), some (0, bits), some (0, kd), some (0, 1), some (0, ((4 * t) + 4))]) d_Mo_sortsOf_85 (by decide) rfl rfl ?_
          refine zV_goto d_Mo_sortsOf_88 ?_
          have hg1 : 1 = zb (∀ i, 0 ≤ i → i < t + 1 → cbQ mem k kd i) := by first | exact fl_a1 i0.1 i1 (by omega) (fun z => by first | exact absurd z (by assumption) | assumption) | exact fl_a0 i0.1 i1 (by omega) | exact fl_an i0.1 (fun z => absurd (z (by assumption)) (by assumption))
          rw [show 4 * t + 4 = 4 * (t + 1) by omega]
          exact ih _ (by omega) (t + 1) _ rfl (by omega) hg1
        · refine zV_aload_n d_Mo_sortsOf_42 rfl ?_
          refine zV_iload_n d_Mo_sortsOf_43 rfl ?_
          refine zV_iload_n d_Mo_sortsOf_44 rfl ?_
          refine zV_aload_n d_Mo_sortsOf_45 rfl ?_
          refine zS_getr (r := 94) d_Mo_sortsOf_46 f_Mo_50 rfl rfl rfl ?_
          refine zV_iload d_Mo_sortsOf_49 rfl ?_
          refine zV_iconst d_Mo_sortsOf_51 ?_
          refine zV_iadd d_Mo_sortsOf_52 ?_
          refine zS_iald d_Mo_sortsOf_53 rfl rfl ⟨by omega, by omega⟩ ?_
          refine zV_aload_n d_Mo_sortsOf_54 rfl ?_
          refine zS_getr (r := 94) d_Mo_sortsOf_55 f_Mo_50 rfl rfl rfl ?_
          refine zV_iload d_Mo_sortsOf_58 rfl ?_
          refine zV_iconst d_Mo_sortsOf_60 ?_
          refine zV_iadd d_Mo_sortsOf_61 ?_
          refine zS_iald d_Mo_sortsOf_62 rfl rfl ⟨by omega, by omega⟩ ?_
          refine zS_invvE (mt' := m_Mo_liesAt) (avs := [(0, k), (0, kd), (0, (mem 94 ((4 * t) + 1))), (0, (mem 94 ((4 * t) + 2)))]) (st := []) d_Mo_sortsOf_63 l_Mo_311 k_Mo_liesAt rfl rfl rfl rfl rfl (s_Mo_liesAt mem k kd (mem 94 ((4 * t) + 1)) (mem 94 ((4 * t) + 2)) hK hk (by omega) (by omega) (by omega)) ?_
          show zS zT m_Mo_sortsOf (0, 0) 66 [some (2, 80), some (0, k), some (0, bits), some (0, kd), some (0, x), some (0, (4 * t))] [(0, (sdK kd (mem 83 k) (mem 84 k) (mem 94 ((4 * t) + 1)) (mem 94 ((4 * t) + 2))))] mem _
          refine zV_aload_n d_Mo_sortsOf_66 rfl ?_
          refine zS_getr (r := 94) d_Mo_sortsOf_67 f_Mo_50 rfl rfl rfl ?_
          refine zV_iload d_Mo_sortsOf_70 rfl ?_
          refine zV_iconst d_Mo_sortsOf_72 ?_
          refine zV_iadd d_Mo_sortsOf_73 ?_
          refine zS_iald d_Mo_sortsOf_74 rfl rfl ⟨by omega, by omega⟩ ?_
          refine zV_icmp_ne d_Mo_sortsOf_75 (sdK_i _ _ _ _ _) (by omega) (fun c75 => ?_) (fun c75 => ?_)
          · refine zV_iconst d_Mo_sortsOf_82 ?_
            refine zV_istore (L' := [some (2, 80), some (0, k), some (0, bits), some (0, kd), some (0, 0), some (0, (4 * t))]) d_Mo_sortsOf_83 (by decide) rfl ?_
            refine zV_iinc (L' := [some (2, 80), some (0, k), some (0, bits), some (0, kd), some (0, 0), some (0, ((4 * t) + 4))]) d_Mo_sortsOf_85 (by decide) rfl rfl ?_
            refine zV_goto d_Mo_sortsOf_88 ?_
            have hg1 : 0 = zb (∀ i, 0 ≤ i → i < t + 1 → cbQ mem k kd i) := by first | exact fl_a1 i0.1 i1 (by omega) (fun z => by first | exact absurd z (by assumption) | assumption) | exact fl_a0 i0.1 i1 (by omega) | exact fl_an i0.1 (fun z => absurd (z (by assumption)) (by assumption))
            rw [show 4 * t + 4 = 4 * (t + 1) by omega]
            exact ih _ (by omega) (t + 1) _ rfl (by omega) hg1
          · refine zV_iconst d_Mo_sortsOf_78 ?_
            refine zV_goto d_Mo_sortsOf_79 ?_
            refine zV_istore (L' := [some (2, 80), some (0, k), some (0, bits), some (0, kd), some (0, 1), some (0, (4 * t))]) d_Mo_sortsOf_83 (by decide) rfl ?_
            refine zV_iinc (L' := [some (2, 80), some (0, k), some (0, bits), some (0, kd), some (0, 1), some (0, ((4 * t) + 4))]) d_Mo_sortsOf_85 (by decide) rfl rfl ?_
            refine zV_goto d_Mo_sortsOf_88 ?_
            have hg1 : 1 = zb (∀ i, 0 ≤ i → i < t + 1 → cbQ mem k kd i) := by first | exact fl_a1 i0.1 i1 (by omega) (fun z => by first | exact absurd z (by assumption) | assumption) | exact fl_a0 i0.1 i1 (by omega) | exact fl_an i0.1 (fun z => absurd (z (by assumption)) (by assumption))
            rw [show 4 * t + 4 = 4 * (t + 1) by omega]
            exact ih _ (by omega) (t + 1) _ rfl (by omega) hg1
theorem s_Mo_sortsOf_91 (mem : zMem) (k bits kd : Int) (G : Prop) (hd : 0 ≤ kd ∧ kd < 5) (hb : 0 ≤ bits ∧ bits < pw kd) (Q9 : zQ2) (kk : zS zT m_Mo_sortsOf (0, 0) 4 [some (2, 80), some (0, k), some (0, (bits + zb G * pw kd)), some (0, (kd + 1)), none, none] [] mem (zQs Q9)) : zS zT m_Mo_sortsOf (0, 0) 91 [some (2, 80), some (0, k), some (0, bits), some (0, kd), some (0, (zb G)), none] [] mem (zQs Q9) := by
  refine zV_iload_n d_Mo_sortsOf_91 rfl ?_
  refine zV_iload d_Mo_sortsOf_92 rfl ?_
  refine zV_ifb_eq d_Mo_sortsOf_94 (fun c94 => ?_) (fun c94 => ?_)
  · refine zV_iconst d_Mo_sortsOf_103 ?_
    refine zV_ior bits d_Mo_sortsOf_104 (or_z _) ?_
    refine zV_istore_n (L' := [some (2, 80), some (0, k), some (0, bits), some (0, kd), some (0, (zb G)), none]) d_Mo_sortsOf_105 (by decide) rfl ?_
    refine zV_iinc (L' := [some (2, 80), some (0, k), some (0, bits), some (0, (kd + 1)), some (0, (zb G)), none]) d_Mo_sortsOf_106 (by decide) rfl rfl ?_
    refine zV_goto d_Mo_sortsOf_109 ?_
    have ev : bits + zb G * pw kd = bits := by first | (rw [zb_t (by assumption)]; omega) | (rw [zb_f (by assumption)]; omega)
    rw [ev] at kk
    refine zV_forget (L' := [some (2, 80), some (0, k), some (0, bits), some (0, (kd + 1)), none, none]) (by simp [zle]) ?_
    exact kk
  · refine zV_iconst d_Mo_sortsOf_97 ?_
    refine zV_iload_n d_Mo_sortsOf_98 rfl ?_
    refine zV_ishl (pw kd) d_Mo_sortsOf_99 (shl_pw (by omega) (by omega)) ?_
    refine zV_goto d_Mo_sortsOf_100 ?_
    refine zV_ior (bits + (pw kd)) d_Mo_sortsOf_104 (or_pw (by omega) (by omega) (by omega) (by omega)) ?_
    refine zV_istore_n (L' := [some (2, 80), some (0, k), some (0, (bits + (pw kd))), some (0, kd), some (0, (zb G)), none]) d_Mo_sortsOf_105 (by decide) rfl ?_
    refine zV_iinc (L' := [some (2, 80), some (0, k), some (0, (bits + (pw kd))), some (0, (kd + 1)), some (0, (zb G)), none]) d_Mo_sortsOf_106 (by decide) rfl rfl ?_
    refine zV_goto d_Mo_sortsOf_109 ?_
    have ev : bits + zb G * pw kd = (bits + (pw kd)) := by first | (rw [zb_t (by assumption)]; omega) | (rw [zb_f (by assumption)]; omega)
    rw [ev] at kk
    refine zV_forget (L' := [some (2, 80), some (0, k), some (0, (bits + (pw kd))), some (0, (kd + 1)), none, none]) (by simp [zle]) ?_
    exact kk
theorem s_Mo_sortsOf_4 (mem : zMem) (k : Int) (hK : moK mem) (hS : okSM mem) (hk : 0 ≤ k ∧ k < 4) (q : Int) : ∀ (kd : Int) (bits : Int), (0 ≤ kd ∧ kd ≤ 5) → (0 ≤ bits ∧ bits < pw kd) → (bits + zsm (fun kd => zb (cbM mem k kd) * pw kd) (5 - kd).toNat kd = q) → zS zT m_Mo_sortsOf (0, 0) 4 [some (2, 80), some (0, k), some (0, bits), some (0, kd), none, none] [] mem (zQs (fun r m => r = some (0, q) ∧ m = mem)) := by
  intro kd bits
  obtain ⟨k9, hk9⟩ : ∃ kq : Nat, (5 - kd).toNat = kq := ⟨_, rfl⟩
  induction k9 using Nat.strongRecOn generalizing kd bits with
  | _ k9 ih =>
    intro i0 i1 i2
    have s1 := hS.1
    have z1 := zb_01 (cbM mem k kd)
    refine zV_iload_n d_Mo_sortsOf_4 rfl ?_
    refine zV_iconst d_Mo_sortsOf_5 ?_
    refine zV_icmp_ge d_Mo_sortsOf_6 (by omega) (by omega) (fun c6 => ?_) (fun c6 => ?_)
    · refine zV_iload_n d_Mo_sortsOf_112 rfl ?_
      exact zS_iret d_Mo_sortsOf_113 rfl ⟨Nat.zero_le _, Nat.zero_le _⟩ ⟨by rw [← i2, zsm_e (n := 5) (by omega), Int.add_zero], rfl⟩
    · refine zV_iconst d_Mo_sortsOf_9 ?_
      refine zV_istore (L' := [some (2, 80), some (0, k), some (0, bits), some (0, kd), some (0, 1), none]) d_Mo_sortsOf_10 (by decide) rfl ?_
      refine zV_iconst d_Mo_sortsOf_12 ?_
      refine zV_istore (L' := [some (2, 80), some (0, k), some (0, bits), some (0, kd), some (0, 1), some (0, 0)]) d_Mo_sortsOf_13 (by decide) rfl ?_
      have hp := pw_s i0.1 (by omega)
      refine s_Mo_sortsOf_15 mem k hK hS hk bits kd (by omega) _ ?_ 0 1 (by omega) (by rw [zb_t (fun i a b => by omega)])
      refine s_Mo_sortsOf_91 mem k bits kd _ (by omega) i1 _ (ih _ (by omega) (kd + 1) _ rfl (by omega) ?_ ?_)
      · rcases z1 with e | e <;> rw [e] <;> omega
      · rw [← i2, zsm_s (n := 5) (i := kd) (by omega)]; omega
theorem s_Mo_sortsOf (mem : zMem) (k : Int) (hK : moK mem) (hS : okSM mem) (hk : 0 ≤ k ∧ k < 4) : zF m_Mo_sortsOf [(2, 80), (0, k)] mem (fun r m => r = some (0, (srt (fun kd => cbM mem k kd))) ∧ m = mem) := by
  refine zF_of (by decide) (Nat.le_of_ble_eq_true rfl) ?_
  show zS zT m_Mo_sortsOf (0, 0) 0 [some (2, 80), some (0, k), none, none, none, none] [] mem _
  refine zV_iconst d_Mo_sortsOf_0 ?_
  refine zV_istore_n (L' := [some (2, 80), some (0, k), some (0, 0), none, none, none]) d_Mo_sortsOf_1 (by decide) rfl ?_
  refine zV_iconst d_Mo_sortsOf_2 ?_
  refine zV_istore_n (L' := [some (2, 80), some (0, k), some (0, 0), some (0, 0), none, none]) d_Mo_sortsOf_3 (by decide) rfl ?_
  exact s_Mo_sortsOf_4 mem k hK hS hk _ 0 0 (by omega) (by decide) (by rw [Int.zero_add]; rfl)
def wmF (a b c x h w : Int) : Int := if w < lwQ a b c x h then lwQ a b c x h else w
theorem wm_lw (a b c x : Int) : zfo (wmF a b c x) (3 - 0 : Int).toNat 0 0 = lw a b c x := by
  have q0 := lwQ_r a b c x 0
  have q1 := lwQ_r a b c x 1
  have q2 := lwQ_r a b c x 2
  show wmF a b c x (0 + 1 + 1) (wmF a b c x (0 + 1) (wmF a b c x 0 0)) = _
  rw [show (0 : Int) + 1 + 1 = 2 by decide, show (0 : Int) + 1 = 1 by decide]
  unfold wmF lw maxI
  (repeat' split) <;> omega
def amF (a b c x : Int) (s : Int × Int) : Int × Int := if lw a b c x < s.2 then (x + 9, lw a b c x) else s
theorem zfo_rel {σ τ : Type} {f : Int → σ → σ} {g : Int → τ → τ} (R : σ → τ → Prop) : ∀ (k : Nat) (i : Int) (s : σ) (t : τ), R s t → (∀ j s t, R s t → R (f j s) (g j t)) → R (zfo f k i s) (zfo g k i t)
  | 0, _, _, _, h, _ => h
  | k + 1, i, s, t, h, hs => zfo_rel R k (i + 1) (f i s) (g i t) (hs i s t h) hs
theorem am_as (a b c : Int) : (zfo (amF a b c) (10 - (-9) : Int).toNat (-9) (-1, 6)).1 = asX a b c := by
  have l := lw_r a b c (-9)
  have e1 : amF a b c (-9) (-1, 6) = (-9 + 9, lw a b c (-9)) := by unfold amF; rw [if_pos (show lw a b c (-9) < 6 by omega)]
  have e2 : asF a b c (-9) (-9, 6) = (-9, lw a b c (-9)) := by unfold asF; rw [if_pos (show lw a b c (-9) < 6 by omega)]
  have h := zfo_rel (f := amF a b c) (g := asF a b c) (fun s t => s.1 = t.1 + 9 ∧ s.2 = t.2) 18 (-9 + 1) (amF a b c (-9) (-1, 6)) (asF a b c (-9) (-9, 6)) (by rw [e1, e2]; exact ⟨rfl, rfl⟩) (fun j s t q => by
    unfold amF asF
    rw [q.2]
    by_cases e : lw a b c j < t.2
    · rw [if_pos e, if_pos e]; exact ⟨rfl, rfl⟩
    · rw [if_neg e, if_neg e]; exact q)
  exact h.1
theorem s_Mo_askOf_45 (mem : zMem) (k : Int) (hK : moK mem) (hk : 0 ≤ k ∧ k < 4) (a : Int) (ha : 0 ≤ a ∧ a < 32) (bs ls x ws h : Int) (hx : -9 ≤ x ∧ x ≤ 9) (hh : 0 ≤ h ∧ h ≤ 2) (Q9 : zQ2) (kk : zS zT m_Mo_askOf (0, 0) 87 [some (2, 80), some (0, k), some (0, a), some (0, bs), some (0, ls), some (0, x), some (0, ws), some (0, h), some (0, (lwQ a (mem 83 k) (mem 84 k) x h)), none] [] mem (zQs Q9)) : ∀ (kd : Int) (sm : Int), (0 ≤ kd ∧ kd ≤ 5) → (sm + zsm (lwF a (mem 83 k) (mem 84 k) x h) (5 - kd).toNat kd = lwQ a (mem 83 k) (mem 84 k) x h) → zS zT m_Mo_askOf (0, 0) 45 [some (2, 80), some (0, k), some (0, a), some (0, bs), some (0, ls), some (0, x), some (0, ws), some (0, h), some (0, sm), some (0, kd)] [] mem (zQs (Q9)) := by
  intro kd sm
  obtain ⟨k9, hk9⟩ : ∃ kq : Nat, (5 - kd).toNat = kq := ⟨_, rfl⟩
  induction k9 using Nat.strongRecOn generalizing kd sm with
  | _ k9 ih =>
    intro i0 i1
    refine zV_iload d_Mo_askOf_45 rfl ?_
    refine zV_iconst d_Mo_askOf_47 ?_
    refine zV_icmp_ge d_Mo_askOf_48 (by omega) (by omega) (fun c48 => ?_) (fun c48 => ?_)
    · refine zV_forget (L' := [some (2, 80), some (0, k), some (0, a), some (0, bs), some (0, ls), some (0, x), some (0, ws), some (0, h), some (0, sm), none]) (by simp [zle]) ?_
      rw [zsm_e (n := 5) (by omega), Int.add_zero] at i1
      rw [i1]
      exact kk
    · refine zV_iload d_Mo_askOf_51 rfl ?_
      refine zV_aload_n d_Mo_askOf_53 rfl ?_
      refine zV_iload_n d_Mo_askOf_54 rfl ?_
      refine zV_iload d_Mo_askOf_55 rfl ?_
      refine zV_iload d_Mo_askOf_57 rfl ?_
      refine zV_iconst d_Mo_askOf_59 ?_
      refine zS_invvE (mt' := m_Mo_liesAt) (avs := [(0, k), (0, kd), (0, x), (0, 0)]) (st := [(0, sm)]) d_Mo_askOf_60 l_Mo_311 k_Mo_liesAt rfl rfl rfl rfl rfl (s_Mo_liesAt mem k kd x 0 hK hk (by omega) (by omega) (by omega)) ?_
      show zS zT m_Mo_askOf (0, 0) 63 [some (2, 80), some (0, k), some (0, a), some (0, bs), some (0, ls), some (0, x), some (0, ws), some (0, h), some (0, sm), some (0, kd)] [(0, (sdK kd (mem 83 k) (mem 84 k) x 0)), (0, sm)] mem _
      refine zV_iload d_Mo_askOf_63 rfl ?_
      refine zV_icmp_ne d_Mo_askOf_65 (sdK_i _ _ _ _ _) (by omega) (fun c65 => ?_) (fun c65 => ?_)
      · refine zV_iconst d_Mo_askOf_77 ?_
        refine zV_iadd d_Mo_askOf_78 ?_
        refine zV_istore (L' := [some (2, 80), some (0, k), some (0, a), some (0, bs), some (0, ls), some (0, x), some (0, ws), some (0, h), some (0, (sm + 0)), some (0, kd)]) d_Mo_askOf_79 (by decide) rfl ?_
        refine zV_iinc (L' := [some (2, 80), some (0, k), some (0, a), some (0, bs), some (0, ls), some (0, x), some (0, ws), some (0, h), some (0, (sm + 0)), some (0, (kd + 1))]) d_Mo_askOf_81 (by decide) rfl rfl ?_
        refine zV_goto d_Mo_askOf_84 ?_
        have e0 := lwF_v a (mem 83 k) (mem 84 k) x h kd
        have m2 := mod2 (a / pw kd)
        refine ih _ (by omega) (kd + 1) _ rfl (by omega) ?_
        rw [← i1, zsm_s (n := 5) (i := kd) (by omega)]
        first | rw [e0.2 (fun z => by have := z.2; omega)]; omega | (by_cases ee : a / pw kd % 2 = 1; (rw [e0.1 ⟨ee, by omega⟩]; omega); (rw [e0.2 (fun z => ee z.1)]; omega))
      · refine zV_iload_n d_Mo_askOf_68 rfl ?_
        refine zV_iload d_Mo_askOf_69 rfl ?_
        refine zV_ishr (a / pw kd) d_Mo_askOf_71 (shr_pw (by omega) (by omega) (by omega) (by omega)) ?_
        refine zV_iconst d_Mo_askOf_72 ?_
        refine zV_iand 1 d_Mo_askOf_73 ⟨by decide, rfl⟩ ?_
        refine zV_goto d_Mo_askOf_74 ?_
        refine zV_iadd d_Mo_askOf_78 ?_
        refine zV_istore (L' := [some (2, 80), some (0, k), some (0, a), some (0, bs), some (0, ls), some (0, x), some (0, ws), some (0, h), some (0, (sm + ((a / pw kd) % 2 ^ 1))), some (0, kd)]) d_Mo_askOf_79 (by decide) rfl ?_
        refine zV_iinc (L' := [some (2, 80), some (0, k), some (0, a), some (0, bs), some (0, ls), some (0, x), some (0, ws), some (0, h), some (0, (sm + ((a / pw kd) % 2 ^ 1))), some (0, (kd + 1))]) d_Mo_askOf_81 (by decide) rfl rfl ?_
        refine zV_goto d_Mo_askOf_84 ?_
        have e0 := lwF_v a (mem 83 k) (mem 84 k) x h kd
        have m2 := mod2 (a / pw kd)
        refine ih _ (by omega) (kd + 1) _ rfl (by omega) ?_
        rw [← i1, zsm_s (n := 5) (i := kd) (by omega)]
        first | rw [e0.2 (fun z => by have := z.2; omega)]; omega | (by_cases ee : a / pw kd % 2 = 1; (rw [e0.1 ⟨ee, by omega⟩]; omega); (rw [e0.2 (fun z => ee z.1)]; omega))
theorem s_Mo_askOf_87 (mem : zMem) (k a bs ls x ws h sm : Int) (hh : 0 ≤ h ∧ h ≤ 2) (hs : 0 ≤ sm ∧ sm ≤ 5) (hw : 0 ≤ ws ∧ ws ≤ 5) (Q9 : zQ2) (kk : zS zT m_Mo_askOf (0, 0) 33 [some (2, 80), some (0, k), some (0, a), some (0, bs), some (0, ls), some (0, x), some (0, (if ws < sm then sm else ws)), some (0, (h + 1)), none, none] [] mem (zQs Q9)) : zS zT m_Mo_askOf (0, 0) 87 [some (2, 80), some (0, k), some (0, a), some (0, bs), some (0, ls), some (0, x), some (0, ws), some (0, h), some (0, sm), none] [] mem (zQs Q9) := by
  refine zV_iload d_Mo_askOf_87 rfl ?_
  refine zV_iload d_Mo_askOf_89 rfl ?_
  refine zV_icmp_le d_Mo_askOf_91 (by omega) (by omega) (fun c91 => ?_) (fun c91 => ?_)
  · refine zV_iload d_Mo_askOf_99 rfl ?_
    refine zV_istore (L' := [some (2, 80), some (0, k), some (0, a), some (0, bs), some (0, ls), some (0, x), some (0, ws), some (0, h), some (0, sm), none]) d_Mo_askOf_101 (by decide) rfl ?_
    refine zV_iinc (L' := [some (2, 80), some (0, k), some (0, a), some (0, bs), some (0, ls), some (0, x), some (0, ws), some (0, (h + 1)), some (0, sm), none]) d_Mo_askOf_103 (by decide) rfl rfl ?_
    refine zV_goto d_Mo_askOf_106 ?_
    have ev : (if ws < sm then sm else ws) = ws := by first | rw [if_pos (by omega)] | rw [if_neg (by omega)]
    rw [ev] at kk
    refine zV_forget (L' := [some (2, 80), some (0, k), some (0, a), some (0, bs), some (0, ls), some (0, x), some (0, ws), some (0, (h + 1)), none, none]) (by simp [zle]) ?_
    exact kk
  · refine zV_iload d_Mo_askOf_94 rfl ?_
    refine zV_goto d_Mo_askOf_96 ?_
    refine zV_istore (L' := [some (2, 80), some (0, k), some (0, a), some (0, bs), some (0, ls), some (0, x), some (0, sm), some (0, h), some (0, sm), none]) d_Mo_askOf_101 (by decide) rfl ?_
    refine zV_iinc (L' := [some (2, 80), some (0, k), some (0, a), some (0, bs), some (0, ls), some (0, x), some (0, sm), some (0, (h + 1)), some (0, sm), none]) d_Mo_askOf_103 (by decide) rfl rfl ?_
    refine zV_goto d_Mo_askOf_106 ?_
    have ev : (if ws < sm then sm else ws) = sm := by first | rw [if_pos (by omega)] | rw [if_neg (by omega)]
    rw [ev] at kk
    refine zV_forget (L' := [some (2, 80), some (0, k), some (0, a), some (0, bs), some (0, ls), some (0, x), some (0, sm), some (0, (h + 1)), none, none]) (by simp [zle]) ?_
    exact kk
theorem s_Mo_askOf_33 (mem : zMem) (k : Int) (hK : moK mem) (hk : 0 ≤ k ∧ k < 4) (a : Int) (ha : 0 ≤ a ∧ a < 32) (bs ls x : Int) (hx : -9 ≤ x ∧ x ≤ 9) (Q9 : zQ2) (kk : zS zT m_Mo_askOf (0, 0) 109 [some (2, 80), some (0, k), some (0, a), some (0, bs), some (0, ls), some (0, x), some (0, (lw a (mem 83 k) (mem 84 k) x)), none, none, none] [] mem (zQs Q9)) : ∀ (h : Int) (ws : Int), (0 ≤ h ∧ h ≤ 3) → (0 ≤ ws ∧ ws ≤ 5) → (zfo (wmF a (mem 83 k) (mem 84 k) x) (3 - h).toNat h ws = lw a (mem 83 k) (mem 84 k) x) → zS zT m_Mo_askOf (0, 0) 33 [some (2, 80), some (0, k), some (0, a), some (0, bs), some (0, ls), some (0, x), some (0, ws), some (0, h), none, none] [] mem (zQs (Q9)) := by
  intro h ws
  obtain ⟨k9, hk9⟩ : ∃ kq : Nat, (3 - h).toNat = kq := ⟨_, rfl⟩
  induction k9 using Nat.strongRecOn generalizing h ws with
  | _ k9 ih =>
    intro i0 i1 i2
    have lq := lwQ_r a (mem 83 k) (mem 84 k) x h
    refine zV_iload d_Mo_askOf_33 rfl ?_
    refine zV_iconst d_Mo_askOf_35 ?_
    refine zV_icmp_ge d_Mo_askOf_36 (by omega) (by omega) (fun c36 => ?_) (fun c36 => ?_)
    · refine zV_forget (L' := [some (2, 80), some (0, k), some (0, a), some (0, bs), some (0, ls), some (0, x), some (0, ws), none, none, none]) (by simp [zle]) ?_
      rw [zfo_e (n := 3) (by omega)] at i2
      rw [i2]
      exact kk
    · refine zV_iconst d_Mo_askOf_39 ?_
      refine zV_istore (L' := [some (2, 80), some (0, k), some (0, a), some (0, bs), some (0, ls), some (0, x), some (0, ws), some (0, h), some (0, 0), none]) d_Mo_askOf_40 (by decide) rfl ?_
      refine zV_iconst d_Mo_askOf_42 ?_
      refine zV_istore (L' := [some (2, 80), some (0, k), some (0, a), some (0, bs), some (0, ls), some (0, x), some (0, ws), some (0, h), some (0, 0), some (0, 0)]) d_Mo_askOf_43 (by decide) rfl ?_
      refine s_Mo_askOf_45 mem k hK hk a ha bs ls x ws h hx (by omega) _ ?_ 0 0 (by omega) (by rw [Int.zero_add]; rfl)
      refine s_Mo_askOf_87 mem k a bs ls x ws h _ (by omega) lq i1 _ (ih _ (by omega) (h + 1) _ rfl (by omega) (by split <;> omega) ?_)
      rw [← i2, zfo_s (n := 3) (i := h) (by omega)]
      rfl
theorem s_Mo_askOf_109 (mem : zMem) (k a bs ls x ws : Int) (hx : -9 ≤ x ∧ x ≤ 9) (hw : 0 ≤ ws ∧ ws ≤ 5) (hl : 0 ≤ ls ∧ ls ≤ 6) (Q9 : zQ2) (kk : zS zT m_Mo_askOf (0, 0) 16 [some (2, 80), some (0, k), some (0, a), some (0, (if ws < ls then (x + 9, ws) else (bs, ls)).1), some (0, (if ws < ls then (x + 9, ws) else (bs, ls)).2), some (0, (x + 1)), none, none, none, none] [] mem (zQs Q9)) : zS zT m_Mo_askOf (0, 0) 109 [some (2, 80), some (0, k), some (0, a), some (0, bs), some (0, ls), some (0, x), some (0, ws), none, none, none] [] mem (zQs Q9) := by
  refine zV_iload d_Mo_askOf_109 rfl ?_
  refine zV_iload d_Mo_askOf_111 rfl ?_
  refine zV_icmp_ge d_Mo_askOf_113 (by omega) (by omega) (fun c113 => ?_) (fun c113 => ?_)
  · refine zV_iload_n d_Mo_askOf_124 rfl ?_
    refine zV_istore_n (L' := [some (2, 80), some (0, k), some (0, a), some (0, bs), some (0, ls), some (0, x), some (0, ws), none, none, none]) d_Mo_askOf_125 (by decide) rfl ?_
    refine zV_iload d_Mo_askOf_126 rfl ?_
    refine zV_iload d_Mo_askOf_128 rfl ?_
    refine zV_icmp_ge d_Mo_askOf_130 (by omega) (by omega) (fun c130 => ?_) (fun c130 => ?_)
    · refine zV_iload d_Mo_askOf_138 rfl ?_
      refine zV_istore (L' := [some (2, 80), some (0, k), some (0, a), some (0, bs), some (0, ls), some (0, x), some (0, ws), none, none, none]) d_Mo_askOf_140 (by decide) rfl ?_
      refine zV_iinc (L' := [some (2, 80), some (0, k), some (0, a), some (0, bs), some (0, ls), some (0, (x + 1)), some (0, ws), none, none, none]) d_Mo_askOf_142 (by decide) rfl rfl ?_
      refine zV_goto d_Mo_askOf_145 ?_
      first | (exfalso; omega) | (rw [show (if ws < ls then (x + 9, ws) else (bs, ls)) = (bs, ls) from (by first | rw [if_pos (by omega)] | rw [if_neg (by omega)])] at kk; refine zV_forget (L' := [some (2, 80), some (0, k), some (0, a), some (0, bs), some (0, ls), some (0, (x + 1)), none, none, none, none]) (by simp [zle]) ?_; exact kk)
    · refine zV_iload d_Mo_askOf_133 rfl ?_
      refine zV_goto d_Mo_askOf_135 ?_
      refine zV_istore (L' := [some (2, 80), some (0, k), some (0, a), some (0, bs), some (0, ws), some (0, x), some (0, ws), none, none, none]) d_Mo_askOf_140 (by decide) rfl ?_
      refine zV_iinc (L' := [some (2, 80), some (0, k), some (0, a), some (0, bs), some (0, ws), some (0, (x + 1)), some (0, ws), none, none, none]) d_Mo_askOf_142 (by decide) rfl rfl ?_
      refine zV_goto d_Mo_askOf_145 ?_
      first | (exfalso; omega) | (rw [show (if ws < ls then (x + 9, ws) else (bs, ls)) = (bs, ws) from (by first | rw [if_pos (by omega)] | rw [if_neg (by omega)])] at kk; refine zV_forget (L' := [some (2, 80), some (0, k), some (0, a), some (0, bs), some (0, ws), some (0, (x + 1)), none, none, none, none]) (by simp [zle]) ?_; exact kk)
  · refine zV_iload d_Mo_askOf_116 rfl ?_
    refine zV_bipush d_Mo_askOf_118 ?_
    refine zV_iadd d_Mo_askOf_120 ?_
    refine zV_goto d_Mo_askOf_121 ?_
    refine zV_istore_n (L' := [some (2, 80), some (0, k), some (0, a), some (0, (x + 9)), some (0, ls), some (0, x), some (0, ws), none, none, none]) d_Mo_askOf_125 (by decide) rfl ?_
    refine zV_iload d_Mo_askOf_126 rfl ?_
    refine zV_iload d_Mo_askOf_128 rfl ?_
    refine zV_icmp_ge d_Mo_askOf_130 (by omega) (by omega) (fun c130 => ?_) (fun c130 => ?_)
    · refine zV_iload d_Mo_askOf_138 rfl ?_
      refine zV_istore (L' := [some (2, 80), some (0, k), some (0, a), some (0, (x + 9)), some (0, ls), some (0, x), some (0, ws), none, none, none]) d_Mo_askOf_140 (by decide) rfl ?_
      refine zV_iinc (L' := [some (2, 80), some (0, k), some (0, a), some (0, (x + 9)), some (0, ls), some (0, (x + 1)), some (0, ws), none, none, none]) d_Mo_askOf_142 (by decide) rfl rfl ?_
      refine zV_goto d_Mo_askOf_145 ?_
      first | (exfalso; omega) | (rw [show (if ws < ls then (x + 9, ws) else (bs, ls)) = ((x + 9), ls) from (by first | rw [if_pos (by omega)] | rw [if_neg (by omega)])] at kk; refine zV_forget (L' := [some (2, 80), some (0, k), some (0, a), some (0, (x + 9)), some (0, ls), some (0, (x + 1)), none, none, none, none]) (by simp [zle]) ?_; exact kk)
    · refine zV_iload d_Mo_askOf_133 rfl ?_
      refine zV_goto d_Mo_askOf_135 ?_
      refine zV_istore (L' := [some (2, 80), some (0, k), some (0, a), some (0, (x + 9)), some (0, ws), some (0, x), some (0, ws), none, none, none]) d_Mo_askOf_140 (by decide) rfl ?_
      refine zV_iinc (L' := [some (2, 80), some (0, k), some (0, a), some (0, (x + 9)), some (0, ws), some (0, (x + 1)), some (0, ws), none, none, none]) d_Mo_askOf_142 (by decide) rfl rfl ?_
      refine zV_goto d_Mo_askOf_145 ?_
      first | (exfalso; omega) | (rw [show (if ws < ls then (x + 9, ws) else (bs, ls)) = ((x + 9), ws) from (by first | rw [if_pos (by omega)] | rw [if_neg (by omega)])] at kk; refine zV_forget (L' := [some (2, 80), some (0, k), some (0, a), some (0, (x + 9)), some (0, ws), some (0, (x + 1)), none, none, none, none]) (by simp [zle]) ?_; exact kk)
theorem s_Mo_askOf_16 (mem : zMem) (k : Int) (hK : moK mem) (hk : 0 ≤ k ∧ k < 4) (a : Int) (ha : 0 ≤ a ∧ a < 32) (h0 : a ≠ 0) (q : Int × Int) : ∀ (x : Int) (bs : Int) (ls : Int), (-9 ≤ x ∧ x ≤ 10) → (0 ≤ ls ∧ ls ≤ 6) → (zfo (amF a (mem 83 k) (mem 84 k)) (10 - x).toNat x (bs, ls) = q) → zS zT m_Mo_askOf (0, 0) 16 [some (2, 80), some (0, k), some (0, a), some (0, bs), some (0, ls), some (0, x), none, none, none, none] [] mem (zQs (fun r m => r = some (0, q.1) ∧ m = mem)) := by
  intro x bs ls
  obtain ⟨k9, hk9⟩ : ∃ kq : Nat, (10 - x).toNat = kq := ⟨_, rfl⟩
  induction k9 using Nat.strongRecOn generalizing x bs ls with
  | _ k9 ih =>
    intro i0 i1 i2
    have lr := lw_r a (mem 83 k) (mem 84 k) x
    refine zV_iload d_Mo_askOf_16 rfl ?_
    refine zV_bipush d_Mo_askOf_18 ?_
    refine zV_icmp_ge d_Mo_askOf_20 (by omega) (by omega) (fun c20 => ?_) (fun c20 => ?_)
    · refine zV_iload_n d_Mo_askOf_148 rfl ?_
      exact zS_iret d_Mo_askOf_149 rfl ⟨Nat.zero_le _, Nat.zero_le _⟩ ⟨by rw [← i2, zfo_e (n := 10) (by omega)], rfl⟩
    · refine zV_iload_n d_Mo_askOf_23 rfl ?_
      refine zV_if_eq d_Mo_askOf_24 (by omega) (fun c24 => absurd c24 (by omega)) (fun c24 => ?_)
      refine zV_iconst d_Mo_askOf_27 ?_
      refine zV_istore (L' := [some (2, 80), some (0, k), some (0, a), some (0, bs), some (0, ls), some (0, x), some (0, 0), none, none, none]) d_Mo_askOf_28 (by decide) rfl ?_
      refine zV_iconst d_Mo_askOf_30 ?_
      refine zV_istore (L' := [some (2, 80), some (0, k), some (0, a), some (0, bs), some (0, ls), some (0, x), some (0, 0), some (0, 0), none, none]) d_Mo_askOf_31 (by decide) rfl ?_
      refine s_Mo_askOf_33 mem k hK hk a ha bs ls x (by omega) _ ?_ 0 0 (by omega) (by omega) (wm_lw _ _ _ _)
      refine s_Mo_askOf_109 mem k a bs ls x _ (by omega) lr i1 _ (ih _ (by omega) (x + 1) _ _ rfl (by omega) ?_ ?_)
      · split <;> (show 0 ≤ _ ∧ _ ≤ _; omega)
      · rw [← i2, zfo_s (n := 10) (i := x) (by omega)]
        rfl
theorem s_Mo_askOf_z (mem : zMem) (k a : Int) (h : a = 0) : zS zT m_Mo_askOf (0, 0) 16 [some (2, 80), some (0, k), some (0, a), some (0, (-1)), some (0, 6), some (0, (-9)), none, none, none, none] [] mem (zQs (fun r m => r = some (0, -1) ∧ m = mem)) := by
  refine zV_iload d_Mo_askOf_16 rfl ?_
  refine zV_bipush d_Mo_askOf_18 ?_
  refine zV_icmp_ge d_Mo_askOf_20 (by omega) (by omega) (fun c20 => absurd c20 (by omega)) (fun c20 => ?_)
  refine zV_iload_n d_Mo_askOf_23 rfl ?_
  refine zV_if_eq d_Mo_askOf_24 (by omega) (fun c24 => ?_) (fun c24 => absurd c24 (by omega))
  refine zV_iload_n d_Mo_askOf_148 rfl ?_
  exact zS_iret d_Mo_askOf_149 rfl ⟨Nat.zero_le _, Nat.zero_le _⟩ ⟨rfl, rfl⟩
theorem s_Mo_askOf (mem : zMem) (k : Int) (hK : moK mem) (hS : okSM mem) (hk : 0 ≤ k ∧ k < 4) : zF m_Mo_askOf [(2, 80), (0, k)] mem (fun r m => r = some (0, if (srt (fun kd => cbM mem k kd)) = 0 then -1 else asX (srt (fun kd => cbM mem k kd)) (mem 83 k) (mem 84 k)) ∧ m = mem) := by
  refine zF_of (by decide) (Nat.le_of_ble_eq_true rfl) ?_
  show zS zT m_Mo_askOf (0, 0) 0 [some (2, 80), some (0, k), none, none, none, none, none, none, none, none] [] mem _
  refine zV_aload_n d_Mo_askOf_0 rfl ?_
  refine zV_iload_n d_Mo_askOf_1 rfl ?_
  refine zS_invvE (mt' := m_Mo_sortsOf) (avs := [(0, k)]) (st := []) d_Mo_askOf_2 l_Mo_275 k_Mo_sortsOf rfl rfl rfl rfl rfl (s_Mo_sortsOf mem k hK hS hk) ?_
  show zS zT m_Mo_askOf (0, 0) 5 [some (2, 80), some (0, k), none, none, none, none, none, none, none, none] [(0, (srt (fun kd => cbM mem k kd)))] mem _
  refine zV_istore_n (L' := [some (2, 80), some (0, k), some (0, (srt (fun kd => cbM mem k kd))), none, none, none, none, none, none, none]) d_Mo_askOf_5 (by decide) rfl ?_
  refine zV_iconst d_Mo_askOf_6 ?_
  refine zV_istore_n (L' := [some (2, 80), some (0, k), some (0, (srt (fun kd => cbM mem k kd))), some (0, (-1)), none, none, none, none, none, none]) d_Mo_askOf_7 (by decide) rfl ?_
  refine zV_bipush d_Mo_askOf_8 ?_
  refine zV_istore (L' := [some (2, 80), some (0, k), some (0, (srt (fun kd => cbM mem k kd))), some (0, (-1)), some (0, 6), none, none, none, none, none]) d_Mo_askOf_10 (by decide) rfl ?_
  refine zV_bipush d_Mo_askOf_12 ?_
  refine zV_istore (L' := [some (2, 80), some (0, k), some (0, (srt (fun kd => cbM mem k kd))), some (0, (-1)), some (0, 6), some (0, (-9)), none, none, none, none]) d_Mo_askOf_14 (by decide) rfl ?_
  have sr := srt_r (fun kd => cbM mem k kd)
  by_cases e : (srt (fun kd => cbM mem k kd)) = 0
  · rw [if_pos e]; exact s_Mo_askOf_z mem k _ e
  · rw [if_neg e, ← am_as]; exact s_Mo_askOf_16 mem k hK hk _ sr e _ (-9) (-1) 6 (by omega) (by omega) rfl
noncomputable def cuM (mem : zMem) (k w : Int) : Int := if w = 0 then mem 82 k else if w = 1 then 9 + mem 83 k else if w = 2 then 9 + mem 84 k else if w = 3 then mem 85 k else if w = 4 then (srt (fun kd => cbM mem k kd)) else if w = 5 then (if (srt (fun kd => cbM mem k kd)) = 0 then -1 else asX (srt (fun kd => cbM mem k kd)) (mem 83 k) (mem 84 k)) else -102
theorem s_Mo_tellCurve (mem : zMem) (k w : Int) (hK : moK mem) (hS : okSM mem) (hk : 0 ≤ k ∧ k < 4) (hw : I32 w) : zF m_Mo_tellCurve [(2, 80), (0, k), (0, w)] mem (fun r m => r = some (0, cuM mem k w) ∧ m = mem) := by
  refine zF_of (by decide) (Nat.le_of_ble_eq_true rfl) ?_
  show zS zT m_Mo_tellCurve (0, 0) 0 [some (2, 80), some (0, k), some (0, w)] [] mem _
  refine zV_iload_n d_Mo_tellCurve_0 rfl ?_
  by_cases c1_0 : w = 0
  · refine zV_tsIn (off := 39) (tgt := 40) d_Mo_tellCurve_1 (by omega) c1_0 (by decide) ?_
    refine zV_aload_n d_Mo_tellCurve_40 rfl ?_
    refine zS_getr (r := 82) d_Mo_tellCurve_41 f_Mo_13 rfl rfl rfl ?_
    refine zV_iload_n d_Mo_tellCurve_44 rfl ?_
    refine zS_iald d_Mo_tellCurve_45 rfl rfl ⟨by omega, by omega⟩ ?_
    exact zS_iret d_Mo_tellCurve_46 rfl ⟨Nat.zero_le _, Nat.zero_le _⟩ (by refine ⟨?_, rfl⟩; unfold cuM; rw [if_pos (show w = 0 by omega)])
  by_cases c1_1 : w = 1
  · refine zV_tsIn (off := 46) (tgt := 47) d_Mo_tellCurve_1 (by omega) c1_1 (by decide) ?_
    refine zV_bipush d_Mo_tellCurve_47 ?_
    refine zV_aload_n d_Mo_tellCurve_49 rfl ?_
    refine zS_getr (r := 83) d_Mo_tellCurve_50 f_Mo_16 rfl rfl rfl ?_
    refine zV_iload_n d_Mo_tellCurve_53 rfl ?_
    refine zS_iald d_Mo_tellCurve_54 rfl rfl ⟨by omega, by omega⟩ ?_
    refine zV_iadd d_Mo_tellCurve_55 ?_
    exact zS_iret d_Mo_tellCurve_56 rfl ⟨Nat.zero_le _, Nat.zero_le _⟩ (by refine ⟨?_, rfl⟩; unfold cuM; rw [if_neg (show ¬ w = 0 by omega), if_pos (show w = 1 by omega)])
  by_cases c1_2 : w = 2
  · refine zV_tsIn (off := 56) (tgt := 57) d_Mo_tellCurve_1 (by omega) c1_2 (by decide) ?_
    refine zV_bipush d_Mo_tellCurve_57 ?_
    refine zV_aload_n d_Mo_tellCurve_59 rfl ?_
    refine zS_getr (r := 84) d_Mo_tellCurve_60 f_Mo_19 rfl rfl rfl ?_
    refine zV_iload_n d_Mo_tellCurve_63 rfl ?_
    refine zS_iald d_Mo_tellCurve_64 rfl rfl ⟨by omega, by omega⟩ ?_
    refine zV_iadd d_Mo_tellCurve_65 ?_
    exact zS_iret d_Mo_tellCurve_66 rfl ⟨Nat.zero_le _, Nat.zero_le _⟩ (by refine ⟨?_, rfl⟩; unfold cuM; rw [if_neg (show ¬ w = 0 by omega), if_neg (show ¬ w = 1 by omega), if_pos (show w = 2 by omega)])
  by_cases c1_3 : w = 3
  · refine zV_tsIn (off := 66) (tgt := 67) d_Mo_tellCurve_1 (by omega) c1_3 (by decide) ?_
    refine zV_aload_n d_Mo_tellCurve_67 rfl ?_
    refine zS_getr (r := 85) d_Mo_tellCurve_68 f_Mo_22 rfl rfl rfl ?_
    refine zV_iload_n d_Mo_tellCurve_71 rfl ?_
    refine zS_iald d_Mo_tellCurve_72 rfl rfl ⟨by omega, by omega⟩ ?_
    exact zS_iret d_Mo_tellCurve_73 rfl ⟨Nat.zero_le _, Nat.zero_le _⟩ (by refine ⟨?_, rfl⟩; unfold cuM; rw [if_neg (show ¬ w = 0 by omega), if_neg (show ¬ w = 1 by omega), if_neg (show ¬ w = 2 by omega), if_pos (show w = 3 by omega)])
  by_cases c1_4 : w = 4
  · refine zV_tsIn (off := 73) (tgt := 74) d_Mo_tellCurve_1 (by omega) c1_4 (by decide) ?_
    refine zV_aload_n d_Mo_tellCurve_74 rfl ?_
    refine zV_iload_n d_Mo_tellCurve_75 rfl ?_
    refine zS_invvE (mt' := m_Mo_sortsOf) (avs := [(0, k)]) (st := []) d_Mo_tellCurve_76 l_Mo_275 k_Mo_sortsOf rfl rfl rfl rfl rfl (s_Mo_sortsOf mem k hK hS hk) ?_
    show zS zT m_Mo_tellCurve (0, 0) 79 [some (2, 80), some (0, k), some (0, w)] [(0, (srt (fun kd => cbM mem k kd)))] mem _
    exact zS_iret d_Mo_tellCurve_79 rfl ⟨Nat.zero_le _, Nat.zero_le _⟩ (by refine ⟨?_, rfl⟩; unfold cuM; rw [if_neg (show ¬ w = 0 by omega), if_neg (show ¬ w = 1 by omega), if_neg (show ¬ w = 2 by omega), if_neg (show ¬ w = 3 by omega), if_pos (show w = 4 by omega)])
  by_cases c1_5 : w = 5
  · refine zV_tsIn (off := 79) (tgt := 80) d_Mo_tellCurve_1 (by omega) c1_5 (by decide) ?_
    refine zV_aload_n d_Mo_tellCurve_80 rfl ?_
    refine zV_iload_n d_Mo_tellCurve_81 rfl ?_
    refine zS_invvE (mt' := m_Mo_askOf) (avs := [(0, k)]) (st := []) d_Mo_tellCurve_82 l_Mo_278 k_Mo_askOf rfl rfl rfl rfl rfl (s_Mo_askOf mem k hK hS hk) ?_
    show zS zT m_Mo_tellCurve (0, 0) 85 [some (2, 80), some (0, k), some (0, w)] [(0, (if (srt (fun kd => cbM mem k kd)) = 0 then -1 else asX (srt (fun kd => cbM mem k kd)) (mem 83 k) (mem 84 k)))] mem _
    exact zS_iret d_Mo_tellCurve_85 rfl ⟨Nat.zero_le _, Nat.zero_le _⟩ (by refine ⟨?_, rfl⟩; unfold cuM; rw [if_neg (show ¬ w = 0 by omega), if_neg (show ¬ w = 1 by omega), if_neg (show ¬ w = 2 by omega), if_neg (show ¬ w = 3 by omega), if_neg (show ¬ w = 4 by omega), if_pos (show w = 5 by omega)])
  refine zV_tsOut (tgt := 86) d_Mo_tellCurve_1 (by omega) (by omega) (by decide) ?_
  refine zV_bipush d_Mo_tellCurve_86 ?_
  exact zS_iret d_Mo_tellCurve_88 rfl ⟨Nat.zero_le _, Nat.zero_le _⟩ (by refine ⟨?_, rfl⟩; unfold cuM; rw [if_neg (show ¬ w = 0 by omega), if_neg (show ¬ w = 1 by omega), if_neg (show ¬ w = 2 by omega), if_neg (show ¬ w = 3 by omega), if_neg (show ¬ w = 4 by omega), if_neg (show ¬ w = 5 by omega)])
theorem s_Mo_curve (mem : zMem) (k w : Int) (hi : I32 k) (hw : I32 w) (hK : moK mem) (hS : okSM mem) : zF m_Mo_curve [(2, 80), (0, k), (0, w)] mem (fun r m => r = some (0, if 0 ≤ k ∧ k < mem 80 2 then cuM mem k w else -101) ∧ m = mem) := by
  have k1 := hK.1
  refine zF_of (by decide) (Nat.le_of_ble_eq_true rfl) ?_
  show zS zT m_Mo_curve (0, 0) 0 [some (2, 80), some (0, k), some (0, w)] [] mem _
  refine zV_aload_n d_Mo_curve_0 rfl ?_
  refine zV_iload_n d_Mo_curve_1 rfl ?_
  refine zS_invvE (mt' := m_Mo_isCurve) (avs := [(0, k)]) (st := []) d_Mo_curve_2 l_Mo_227 k_Mo_isCurve rfl rfl rfl rfl rfl (s_Mo_isCurve mem k (by omega) (by omega)) ?_
  show zS zT m_Mo_curve (0, 0) 5 [some (2, 80), some (0, k), some (0, w)] [(0, (zb (0 ≤ k ∧ k ≤ mem 80 2 - 1)))] mem _
  refine zV_ifb_eq d_Mo_curve_5 (fun c5 => ?_) (fun c5 => ?_)
  · refine zV_bipush d_Mo_curve_17 ?_
    exact zS_iret d_Mo_curve_19 rfl ⟨Nat.zero_le _, Nat.zero_le _⟩ (by refine ⟨?_, rfl⟩; first | rw [if_pos (by omega)] | rw [if_neg (by omega)])
  · refine zV_aload_n d_Mo_curve_8 rfl ?_
    refine zV_iload_n d_Mo_curve_9 rfl ?_
    refine zV_iload_n d_Mo_curve_10 rfl ?_
    refine zS_invvE (mt' := m_Mo_tellCurve) (avs := [(0, k), (0, w)]) (st := []) d_Mo_curve_11 l_Mo_281 k_Mo_tellCurve rfl rfl rfl rfl rfl (s_Mo_tellCurve mem k w hK hS (by omega) hw) ?_
    show zS zT m_Mo_curve (0, 0) 14 [some (2, 80), some (0, k), some (0, w)] [(0, (cuM mem k w))] mem _
    refine zV_goto d_Mo_curve_14 ?_
    exact zS_iret d_Mo_curve_19 rfl ⟨Nat.zero_le _, Nat.zero_le _⟩ (by refine ⟨?_, rfl⟩; first | rw [if_pos (by omega)] | rw [if_neg (by omega)])
theorem s_Mo_as (mem : zMem) (i k : Int) (hi : I32 i) (hk : I32 k) (hK : moK mem) : zF m_Mo_as [(2, 80), (0, i), (0, k)] mem (fun r m => r = some (0, if 0 ≤ i ∧ i < mem 80 2 then (if 0 ≤ k ∧ k < 5 then (if k = 0 ∨ k = mem 82 i ∨ (k = 1 ∧ mem 82 i = 2) then i else -1) else -102) else -101) ∧ m = mem) := by
  have k1 := hK.1
  have k2 := hK.2 i
  refine zF_of (by decide) (Nat.le_of_ble_eq_true rfl) ?_
  show zS zT m_Mo_as (0, 0) 0 [some (2, 80), some (0, i), some (0, k), none] [] mem _
  refine zV_aload_n d_Mo_as_0 rfl ?_
  refine zV_iload_n d_Mo_as_1 rfl ?_
  refine zS_invvE (mt' := m_Mo_isCurve) (avs := [(0, i)]) (st := []) d_Mo_as_2 l_Mo_227 k_Mo_isCurve rfl rfl rfl rfl rfl (s_Mo_isCurve mem i (by omega) (by omega)) ?_
  show zS zT m_Mo_as (0, 0) 5 [some (2, 80), some (0, i), some (0, k), none] [(0, (zb (0 ≤ i ∧ i ≤ mem 80 2 - 1)))] mem _
  refine zV_ifb_ne d_Mo_as_5 (fun c5 => ?_) (fun c5 => ?_)
  · refine zV_iload_n d_Mo_as_11 rfl ?_
    refine zV_i2l d_Mo_as_12 (by omega) ?_
    refine zV_lconst0 d_Mo_as_13 ?_
    refine zV_ldc2 (a := 4) d_Mo_as_14 n_Mo_284 rfl ?_
    refine zS_invsE (mt' := m_Mo_in) (avs := [(1, k), (1, 0), (1, 4)]) (st := []) d_Mo_as_17 l_Mo_80 k_Mo_in rfl rfl rfl rfl (s_Mo_in mem k 0 4 (by omega) (by omega) (by omega)) ?_
    show zS zT m_Mo_as (0, 0) 20 [some (2, 80), some (0, i), some (0, k), none] [(0, (zb (0 ≤ k ∧ k ≤ 4)))] mem _
    refine zV_ifb_ne d_Mo_as_20 (fun c20 => ?_) (fun c20 => ?_)
    · refine zV_iload_n d_Mo_as_26 rfl ?_
      refine zV_if_eq d_Mo_as_27 (by omega) (fun c27 => ?_) (fun c27 => ?_)
      · refine zV_iconst d_Mo_as_55 ?_
        refine zV_goto d_Mo_as_56 ?_
        refine zV_istore_n (L' := [some (2, 80), some (0, i), some (0, k), some (0, 1)]) d_Mo_as_60 (by decide) rfl ?_
        refine zV_iload_n d_Mo_as_61 rfl ?_
        refine zV_if_eq d_Mo_as_62 (by omega) (fun c62 => absurd c62 (by omega)) (fun c62 => ?_)
        refine zV_iload_n d_Mo_as_65 rfl ?_
        refine zV_goto d_Mo_as_66 ?_
        exact zS_iret d_Mo_as_70 rfl ⟨Nat.zero_le _, Nat.zero_le _⟩ (by refine ⟨?_, rfl⟩; (repeat' split) <;> first | rfl | (exfalso; omega))
      · refine zV_iload_n d_Mo_as_30 rfl ?_
        refine zV_aload_n d_Mo_as_31 rfl ?_
        refine zS_getr (r := 82) d_Mo_as_32 f_Mo_13 rfl rfl rfl ?_
        refine zV_iload_n d_Mo_as_35 rfl ?_
        refine zS_iald d_Mo_as_36 rfl rfl ⟨by omega, by omega⟩ ?_
        refine zV_icmp_eq d_Mo_as_37 (by omega) (by omega) (fun c37 => ?_) (fun c37 => ?_)
        · refine zV_iconst d_Mo_as_55 ?_
          refine zV_goto d_Mo_as_56 ?_
          refine zV_istore_n (L' := [some (2, 80), some (0, i), some (0, k), some (0, 1)]) d_Mo_as_60 (by decide) rfl ?_
          refine zV_iload_n d_Mo_as_61 rfl ?_
          refine zV_if_eq d_Mo_as_62 (by omega) (fun c62 => absurd c62 (by omega)) (fun c62 => ?_)
          refine zV_iload_n d_Mo_as_65 rfl ?_
          refine zV_goto d_Mo_as_66 ?_
          exact zS_iret d_Mo_as_70 rfl ⟨Nat.zero_le _, Nat.zero_le _⟩ (by refine ⟨?_, rfl⟩; (repeat' split) <;> first | rfl | (exfalso; omega))
        · refine zV_iload_n d_Mo_as_40 rfl ?_
          refine zV_iconst d_Mo_as_41 ?_
          refine zV_icmp_ne d_Mo_as_42 (by omega) (by omega) (fun c42 => ?_) (fun c42 => ?_)
          · refine zV_iconst d_Mo_as_59 ?_
            refine zV_istore_n (L' := [some (2, 80), some (0, i), some (0, k), some (0, 0)]) d_Mo_as_60 (by decide) rfl ?_
            refine zV_iload_n d_Mo_as_61 rfl ?_
            refine zV_if_eq d_Mo_as_62 (by omega) (fun c62 => ?_) (fun c62 => absurd c62 (by omega))
            refine zV_iconst d_Mo_as_69 ?_
            exact zS_iret d_Mo_as_70 rfl ⟨Nat.zero_le _, Nat.zero_le _⟩ (by refine ⟨?_, rfl⟩; (repeat' split) <;> first | rfl | (exfalso; omega))
          · refine zV_aload_n d_Mo_as_45 rfl ?_
            refine zS_getr (r := 82) d_Mo_as_46 f_Mo_13 rfl rfl rfl ?_
            refine zV_iload_n d_Mo_as_49 rfl ?_
            refine zS_iald d_Mo_as_50 rfl rfl ⟨by omega, by omega⟩ ?_
            refine zV_iconst d_Mo_as_51 ?_
            refine zV_icmp_ne d_Mo_as_52 (by omega) (by omega) (fun c52 => ?_) (fun c52 => ?_)
            · refine zV_iconst d_Mo_as_59 ?_
              refine zV_istore_n (L' := [some (2, 80), some (0, i), some (0, k), some (0, 0)]) d_Mo_as_60 (by decide) rfl ?_
              refine zV_iload_n d_Mo_as_61 rfl ?_
              refine zV_if_eq d_Mo_as_62 (by omega) (fun c62 => ?_) (fun c62 => absurd c62 (by omega))
              refine zV_iconst d_Mo_as_69 ?_
              exact zS_iret d_Mo_as_70 rfl ⟨Nat.zero_le _, Nat.zero_le _⟩ (by refine ⟨?_, rfl⟩; (repeat' split) <;> first | rfl | (exfalso; omega))
            · refine zV_iconst d_Mo_as_55 ?_
              refine zV_goto d_Mo_as_56 ?_
              refine zV_istore_n (L' := [some (2, 80), some (0, i), some (0, k), some (0, 1)]) d_Mo_as_60 (by decide) rfl ?_
              refine zV_iload_n d_Mo_as_61 rfl ?_
              refine zV_if_eq d_Mo_as_62 (by omega) (fun c62 => absurd c62 (by omega)) (fun c62 => ?_)
              refine zV_iload_n d_Mo_as_65 rfl ?_
              refine zV_goto d_Mo_as_66 ?_
              exact zS_iret d_Mo_as_70 rfl ⟨Nat.zero_le _, Nat.zero_le _⟩ (by refine ⟨?_, rfl⟩; (repeat' split) <;> first | rfl | (exfalso; omega))
    · refine zV_bipush d_Mo_as_23 ?_
      exact zS_iret d_Mo_as_25 rfl ⟨Nat.zero_le _, Nat.zero_le _⟩ (by refine ⟨?_, rfl⟩; (repeat' split) <;> first | rfl | (exfalso; omega))
  · refine zV_bipush d_Mo_as_8 ?_
    exact zS_iret d_Mo_as_10 rfl ⟨Nat.zero_le _, Nat.zero_le _⟩ (by refine ⟨?_, rfl⟩; (repeat' split) <;> first | rfl | (exfalso; omega))
