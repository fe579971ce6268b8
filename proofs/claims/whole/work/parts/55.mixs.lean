/-! digest: stacks -/
noncomputable def mxI (mem : zMem) (s j h : Int) : Int := zfo (fun c h => 31 * h + sdS mem 31 s j c) (mem 3 1 - 0).toNat 0 h
noncomputable def mxJ (mem : zMem) (s h : Int) : Int := zfo (fun j h => mxI mem s j h) (mem 33 s + 1 - 0).toNat 0 h
noncomputable def mxS (mem : zMem) (h : Int) : Int := zfo (fun s h => mxJ mem s (31 * h + (mem 33 s + 1))) (mem 31 2 - 0).toNat 0 h
theorem s_Cp_mixStacks_55 (mem : zMem) (h0 : Int) (hT : okT mem 31) (hr : 0 ≤ mem 3 1 ∧ mem 3 1 ≤ 4) (s j : Int) (hs : 0 ≤ s ∧ s < mem 31 2) (hj : 0 ≤ j ∧ j ≤ mem 33 s) (q : Int) (Q9 : zQ2) (kk : zS zT m_Cp_mixStacks (0, 0) 91 [some (2, 0), some (1, h0), none, some (1, q), none, some (0, s), some (0, j), none] [] mem (zQs Q9)) : ∀ (c : Int) (hh : Int), (0 ≤ c ∧ c ≤ mem 3 1) → (zfo (fun c h => 31 * h + sdS mem 31 s j c) (mem 3 1 - c).toNat c hh = q) → zS zT m_Cp_mixStacks (0, 0) 55 [some (2, 0), some (1, h0), none, some (1, hh), none, some (0, s), some (0, j), some (0, c)] [] mem (zQs (Q9)) := by
  intro c hh
  obtain ⟨k9, hk9⟩ : ∃ kq : Nat, (mem 3 1 - c).toNat = kq := ⟨_, rfl⟩
  induction k9 using Nat.strongRecOn generalizing c hh with
  | _ k9 ih =>
    intro i0 i1
    have t2 := hT.2.1
    have f1 : 0 ≤ s → s < 25 → 0 ≤ mem 33 s ∧ mem 33 s ≤ 8 := fun q1 q2 => hT.2.2.2.1 s q1 q2
    have f2 := f1 hs.1 (by omega)
    refine zV_iload d_Cp_mixStacks_55 rfl ?_
    refine zV_aload_n d_Cp_mixStacks_57 rfl ?_
    refine zS_getr (r := 3) d_Cp_mixStacks_58 f_Cp_19 rfl rfl rfl ?_
    refine zS_get d_Cp_mixStacks_61 f_Cp_106 rfl rfl ?_
    refine zV_icmp_ge d_Cp_mixStacks_64 (by omega) (by omega) (fun c64 => ?_) (fun c64 => ?_)
    · refine zV_forget (L' := [some (2, 0), some (1, h0), none, some (1, hh), none, some (0, s), some (0, j), none]) (by simp [zle]) ?_
      rw [zfo_e (n := mem 3 1) (by omega)] at i1
      rw [i1]
      exact kk
    · refine zV_lload_n d_Cp_mixStacks_67 rfl ?_
      refine zV_aload_n d_Cp_mixStacks_68 rfl ?_
      refine zS_getr (r := 31) d_Cp_mixStacks_69 f_Cp_42 rfl rfl rfl ?_
      refine zV_iload d_Cp_mixStacks_72 rfl ?_
      refine zV_iload d_Cp_mixStacks_74 rfl ?_
      refine zV_iload d_Cp_mixStacks_76 rfl ?_
      refine zS_invvE (mt' := m_St_sideOf) (avs := [(0, s), (0, j), (0, c)]) (st := [(1, hh)]) d_Cp_mixStacks_78 l_Cp_188 k_St_sideOf rfl rfl rfl rfl rfl (s_St_sideOf mem 31 s j c (Or.inl rfl) hT ⟨by omega, by omega⟩ (by omega) ⟨by omega, by omega⟩) ?_
      show zS zT m_Cp_mixStacks (0, 0) 81 [some (2, 0), some (1, h0), none, some (1, hh), none, some (0, s), some (0, j), some (0, c)] [(0, (sdS mem 31 s j c)), (1, hh)] mem _
      refine zS_invsE (mt' := m_Cp_mix) (avs := [(1, hh), (0, (sdS mem 31 s j c))]) (st := []) d_Cp_mixStacks_81 l_Cp_263 k_Cp_mix rfl rfl rfl rfl (s_Cp_mix mem hh (sdS mem 31 s j c) (sdS_i _ _ _ _ _)) ?_
      show zS zT m_Cp_mixStacks (0, 0) 84 [some (2, 0), some (1, h0), none, some (1, hh), none, some (0, s), some (0, j), some (0, c)] [(1, (31 * hh + (sdS mem 31 s j c)))] mem _
      refine zV_lstore_n (L' := [some (2, 0), some (1, h0), none, some (1, (31 * hh + (sdS mem 31 s j c))), none, some (0, s), some (0, j), some (0, c)]) d_Cp_mixStacks_84 (by decide) rfl ?_
      refine zV_iinc (L' := [some (2, 0), some (1, h0), none, some (1, (31 * hh + (sdS mem 31 s j c))), none, some (0, s), some (0, j), some (0, (c + 1))]) d_Cp_mixStacks_85 (by decide) rfl rfl ?_
      refine zV_goto d_Cp_mixStacks_88 ?_
      refine ih _ (by omega) (c + 1) _ rfl (by omega) ?_
      rw [← i1, zfo_s (n := mem 3 1) (i := c) (by omega)]
theorem s_Cp_mixStacks_91 (mem : zMem) (h0 hh : Int) (s j : Int) (hj : 0 ≤ j ∧ j < 25) (Q9 : zQ2) (kk : zS zT m_Cp_mixStacks (0, 0) 37 [some (2, 0), some (1, h0), none, some (1, hh), none, some (0, s), some (0, (j + 1)), none] [] mem (zQs Q9)) : zS zT m_Cp_mixStacks (0, 0) 91 [some (2, 0), some (1, h0), none, some (1, hh), none, some (0, s), some (0, j), none] [] mem (zQs Q9) := by
  refine zV_iinc (L' := [some (2, 0), some (1, h0), none, some (1, hh), none, some (0, s), some (0, (j + 1)), none]) d_Cp_mixStacks_91 (by decide) rfl rfl ?_
  refine zV_goto d_Cp_mixStacks_94 ?_
  exact kk
theorem s_Cp_mixStacks_97 (mem : zMem) (h0 hh : Int) (s : Int) (hs : 0 ≤ s ∧ s < 25) (Q9 : zQ2) (kk : zS zT m_Cp_mixStacks (0, 0) 5 [some (2, 0), some (1, h0), none, some (1, hh), none, some (0, (s + 1)), none, none] [] mem (zQs Q9)) : zS zT m_Cp_mixStacks (0, 0) 97 [some (2, 0), some (1, h0), none, some (1, hh), none, some (0, s), none, none] [] mem (zQs Q9) := by
  refine zV_iinc (L' := [some (2, 0), some (1, h0), none, some (1, hh), none, some (0, (s + 1)), none, none]) d_Cp_mixStacks_97 (by decide) rfl rfl ?_
  refine zV_goto d_Cp_mixStacks_100 ?_
  exact kk
theorem s_Cp_mixStacks_37 (mem : zMem) (h0 : Int) (hT : okT mem 31) (hr : 0 ≤ mem 3 1 ∧ mem 3 1 ≤ 4) (s : Int) (hs : 0 ≤ s ∧ s < mem 31 2) (q : Int) (Q9 : zQ2) (kk : zS zT m_Cp_mixStacks (0, 0) 97 [some (2, 0), some (1, h0), none, some (1, q), none, some (0, s), none, none] [] mem (zQs Q9)) : ∀ (j : Int) (hh : Int), (0 ≤ j ∧ j ≤ mem 33 s + 1) → (zfo (fun j h => mxI mem s j h) (mem 33 s + 1 - j).toNat j hh = q) → zS zT m_Cp_mixStacks (0, 0) 37 [some (2, 0), some (1, h0), none, some (1, hh), none, some (0, s), some (0, j), none] [] mem (zQs (Q9)) := by
  intro j hh
  obtain ⟨k9, hk9⟩ : ∃ kq : Nat, (mem 33 s + 1 - j).toNat = kq := ⟨_, rfl⟩
  induction k9 using Nat.strongRecOn generalizing j hh with
  | _ k9 ih =>
    intro i0 i1
    have t2 := hT.2.1
    have f1 : 0 ≤ s → s < 25 → 0 ≤ mem 33 s ∧ mem 33 s ≤ 8 := fun q1 q2 => hT.2.2.2.1 s q1 q2
    have f2 := f1 hs.1 (by omega)
    refine zV_iload d_Cp_mixStacks_37 rfl ?_
    refine zV_aload_n d_Cp_mixStacks_39 rfl ?_
    refine zS_getr (r := 31) d_Cp_mixStacks_40 f_Cp_42 rfl rfl rfl ?_
    refine zS_getr (r := 33) d_Cp_mixStacks_43 f_Cp_180 rfl rfl rfl ?_
    refine zV_iload d_Cp_mixStacks_46 rfl ?_
    refine zS_iald d_Cp_mixStacks_48 rfl rfl ⟨by omega, by omega⟩ ?_
    refine zV_icmp_gt d_Cp_mixStacks_49 (by omega) (by omega) (fun c49 => ?_) (fun c49 => ?_)
    · refine zV_forget (L' := [some (2, 0), some (1, h0), none, some (1, hh), none, some (0, s), none, none]) (by simp [zle]) ?_
      rw [zfo_e (n := mem 33 s + 1) (by omega)] at i1
      rw [i1]
      exact kk
    · refine zV_iconst d_Cp_mixStacks_52 ?_
      refine zV_istore (L' := [some (2, 0), some (1, h0), none, some (1, hh), none, some (0, s), some (0, j), some (0, 0)]) d_Cp_mixStacks_53 (by decide) rfl ?_
      refine s_Cp_mixStacks_55 mem h0 hT hr s j hs ⟨i0.1, by omega⟩ (mxI mem s j hh) _ ?_ 0 hh (by omega) rfl
      refine s_Cp_mixStacks_91 mem h0 _ s j (by omega) _ (ih _ (by omega) (j + 1) _ rfl (by omega) ?_)
      rw [← i1, zfo_s (n := mem 33 s + 1) (i := j) (by omega)]
theorem s_Cp_mixStacks_5 (mem : zMem) (h0 : Int) (hT : okT mem 31) (hr : 0 ≤ mem 3 1 ∧ mem 3 1 ≤ 4) (q : Int) : ∀ (s : Int) (hh : Int), (0 ≤ s ∧ s ≤ mem 31 2) → (zfo (fun s h => mxJ mem s (31 * h + (mem 33 s + 1))) (mem 31 2 - s).toNat s hh = q) → zS zT m_Cp_mixStacks (0, 0) 5 [some (2, 0), some (1, h0), none, some (1, hh), none, some (0, s), none, none] [] mem (zQs (fun r m => r = some (1, q) ∧ m = mem)) := by
  intro s hh
  obtain ⟨k9, hk9⟩ : ∃ kq : Nat, (mem 31 2 - s).toNat = kq := ⟨_, rfl⟩
  induction k9 using Nat.strongRecOn generalizing s hh with
  | _ k9 ih =>
    intro i0 i1
    have t2 := hT.2.1
    have f1 : 0 ≤ s → s < 25 → 0 ≤ mem 33 s ∧ mem 33 s ≤ 8 := fun q1 q2 => hT.2.2.2.1 s q1 q2
    refine zV_iload d_Cp_mixStacks_5 rfl ?_
    refine zV_aload_n d_Cp_mixStacks_7 rfl ?_
    refine zS_getr (r := 31) d_Cp_mixStacks_8 f_Cp_42 rfl rfl rfl ?_
    refine zS_get d_Cp_mixStacks_11 f_Cp_244 rfl rfl ?_
    refine zV_icmp_ge d_Cp_mixStacks_14 (by omega) (by omega) (fun c14 => ?_) (fun c14 => ?_)
    · refine zV_lload_n d_Cp_mixStacks_103 rfl ?_
      exact zS_lret d_Cp_mixStacks_104 rfl ⟨Nat.zero_le _, Nat.zero_le _⟩ ⟨by rw [← i1, zfo_e (n := mem 31 2) (by omega)], rfl⟩
    · refine zV_lload_n d_Cp_mixStacks_17 rfl ?_
      refine zV_aload_n d_Cp_mixStacks_18 rfl ?_
      refine zS_getr (r := 31) d_Cp_mixStacks_19 f_Cp_42 rfl rfl rfl ?_
      refine zS_getr (r := 33) d_Cp_mixStacks_22 f_Cp_180 rfl rfl rfl ?_
      refine zV_iload d_Cp_mixStacks_25 rfl ?_
      refine zS_iald d_Cp_mixStacks_27 rfl rfl ⟨by omega, by omega⟩ ?_
      refine zV_iconst d_Cp_mixStacks_28 ?_
      refine zV_iadd d_Cp_mixStacks_29 ?_
      refine zS_invsE (mt' := m_Cp_mix) (avs := [(1, hh), (0, ((mem 33 s) + 1))]) (st := []) d_Cp_mixStacks_30 l_Cp_263 k_Cp_mix rfl rfl rfl rfl (s_Cp_mix mem hh ((mem 33 s) + 1) (by omega)) ?_
      show zS zT m_Cp_mixStacks (0, 0) 33 [some (2, 0), some (1, h0), none, some (1, hh), none, some (0, s), none, none] [(1, (31 * hh + ((mem 33 s) + 1)))] mem _
      refine zV_lstore_n (L' := [some (2, 0), some (1, h0), none, some (1, (31 * hh + ((mem 33 s) + 1))), none, some (0, s), none, none]) d_Cp_mixStacks_33 (by decide) rfl ?_
      refine zV_iconst d_Cp_mixStacks_34 ?_
      refine zV_istore (L' := [some (2, 0), some (1, h0), none, some (1, (31 * hh + ((mem 33 s) + 1))), none, some (0, s), some (0, 0), none]) d_Cp_mixStacks_35 (by decide) rfl ?_
      have f2 := f1 i0.1 (by omega)
      refine s_Cp_mixStacks_37 mem h0 hT hr s ⟨i0.1, by omega⟩ (mxJ mem s (31 * hh + (mem 33 s + 1))) _ ?_ 0 _ (by omega) rfl
      refine s_Cp_mixStacks_97 mem h0 _ s (by omega) _ (ih _ (by omega) (s + 1) _ rfl (by omega) ?_)
      rw [← i1, zfo_s (n := mem 31 2) (i := s) (by omega)]
theorem s_Cp_mixStacks (mem : zMem) (h0 : Int) (hT : okT mem 31) (hr : 0 ≤ mem 3 1 ∧ mem 3 1 ≤ 4) : zF m_Cp_mixStacks [(2, 0), (1, h0)] mem (fun r m => r = some (1, mxS mem h0) ∧ m = mem) := by
  have t2 := hT.2.1
  refine zF_of (by decide) (Nat.le_of_ble_eq_true rfl) ?_
  show zS zT m_Cp_mixStacks (0, 0) 0 [some (2, 0), some (1, h0), none, none, none, none, none, none] [] mem _
  refine zV_lload_n d_Cp_mixStacks_0 rfl ?_
  refine zV_lstore_n (L' := [some (2, 0), some (1, h0), none, some (1, h0), none, none, none, none]) d_Cp_mixStacks_1 (by decide) rfl ?_
  refine zV_iconst d_Cp_mixStacks_2 ?_
  refine zV_istore (L' := [some (2, 0), some (1, h0), none, some (1, h0), none, some (0, 0), none, none]) d_Cp_mixStacks_3 (by decide) rfl ?_
  exact s_Cp_mixStacks_5 mem h0 hT hr _ 0 h0 (by omega) rfl
