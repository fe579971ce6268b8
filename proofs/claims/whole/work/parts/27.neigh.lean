/-! neighbours, forms in cells, groups -/
theorem scB_r {mem : zMem} {t s x b : Int} (hT : okT mem t) (hb : 0 ≤ b ∧ b < 25) : 0 ≤ scB mem t s x b ∧ scB mem t s x b ≤ 60 := by
  obtain ⟨t1, t2, t3, t4, t5, t6⟩ := hT
  unfold scB
  have hr := zff_r (p := fun c => mem (t + 4) c = 0 ∧ mem (t + 3) (4 * s + c) = x) (mem t 3 - 0).toNat 0
  rcases Classical.em (zff (fun c => mem (t + 4) c = 0 ∧ mem (t + 3) (4 * s + c) = x) (mem t 3 - 0).toNat 0 < mem t 3) with h | h
  · rw [cif_t h]
    exact t5 _ (by omega) (by omega)
  · rw [cif_f h]
    omega
theorem lwB_r {mem : zMem} {t s j b : Int} (hT : okT mem t) (hb : 0 ≤ b ∧ b < 25) : 0 ≤ lwB mem t s j b ∧ lwB mem t s j b ≤ 60 := by
  unfold lwB
  split
  · omega
  · exact scB_r hT hb
theorem hiB_r {mem : zMem} {t s j b : Int} (hT : okT mem t) (hb : 0 ≤ b ∧ b < 25) : 0 ≤ hiB mem t s j b ∧ hiB mem t s j b ≤ 60 := by
  unfold hiB
  split
  · have := hT.2.2.2.1 b hb.1 hb.2
    omega
  · exact scB_r hT hb
noncomputable def cmA (mem : zMem) (t s j b : Int) : Int := zsm (fun f => zb (lwB mem t b f s ≤ j ∧ j ≤ hiB mem t b f s)) (mem (t + 2) b + 1 - 0).toNat 0
noncomputable def nb2 (mem : zMem) (t s j b : Int) : Int := cif (0 ≤ b ∧ b < mem t 2) (if s % 2 = 0 then hiB mem t s j b - lwB mem t s j b + 1 else cmA mem t s j b) 0
noncomputable def nbA (mem : zMem) (t s j : Int) : Int := zb (0 < j) + zb (j < mem (t + 2) s) + nb2 mem t s j (s - 1) + nb2 mem t s j (s + 1)
theorem s_St_comingTo_l (mem : zMem) (t s j b : Int) (h : isSt t) (hT : okT mem t) (hs : 0 ≤ s ∧ s < 25) (hj : I32 j) (hb : 0 ≤ b ∧ b < 25) (q : Int) : ∀ (i : Int) (acc : Int), (0 ≤ i) → (i ≤ mem (t + 2) b + 1) → (acc + zsm (fun f => zb (lwB mem t b f s ≤ j ∧ j ≤ hiB mem t b f s)) (mem (t + 2) b + 1 - i).toNat i = q) → zS zT m_St_comingTo (0, 0) 6 [some (2, t), some (0, s), some (0, j), some (0, b), some (0, acc), some (0, i)] [] mem (zQs (fun r m => r = some (0, q) ∧ m = mem)) := by
  intro i acc
  obtain ⟨k9, hk9⟩ : ∃ k : Nat, (mem (t + 2) b + 1 - i).toNat = k := ⟨_, rfl⟩
  induction k9 using Nat.strongRecOn generalizing i acc with
  | _ k9 ih =>
    intro i0 i1 i2
    obtain ⟨t1, t2, t3, t4, t5, t6⟩ := id hT
    have f1 := t4 b hb.1 hb.2
    have f2 := lwB_r (s := b) (j := i) hT hs
    have f3 := hiB_r (s := b) (j := i) hT hs
    refine zV_iload d_St_comingTo_6 rfl ?_
    refine zV_aload_n d_St_comingTo_8 rfl ?_
    refine zS_getr (r := (t + 2)) d_St_comingTo_9 f_St_27 (kSt0 h) rfl rfl ?_
    refine zV_iload_n d_St_comingTo_12 rfl ?_
    refine zS_iald d_St_comingTo_13 (kSt2 h) rfl ⟨by omega, by omega⟩ ?_
    refine zV_icmp_gt d_St_comingTo_14 (by omega) (by omega) (fun c14 => ?_) (fun c14 => ?_)
    · refine zV_iload d_St_comingTo_50 rfl ?_
      exact zS_iret d_St_comingTo_52 rfl ⟨Nat.zero_le _, Nat.zero_le _⟩ ⟨by rw [← i2, zsm_e (n := mem (t + 2) b + 1) (by omega), Int.add_zero], rfl⟩
    · refine zV_aload_n d_St_comingTo_17 rfl ?_
      refine zV_iload_n d_St_comingTo_18 rfl ?_
      refine zV_iload d_St_comingTo_19 rfl ?_
      refine zV_iload_n d_St_comingTo_21 rfl ?_
      refine zS_invvE (mt' := m_St_lowestBeside) (avs := [(0, b), (0, i), (0, s)]) (st := []) d_St_comingTo_22 l_St_164 k_St_lowestBeside (kSt0 h) rfl rfl rfl rfl (s_St_lowestBeside mem t b i s h hT (by omega) (by omega) (by omega)) ?_
      show zS zT m_St_comingTo (0, 0) 25 [some (2, t), some (0, s), some (0, j), some (0, b), some (0, acc), some (0, i)] [(0, (lwB mem t b i s))] mem _
      refine zV_iload_n d_St_comingTo_25 rfl ?_
      refine zV_icmp_gt d_St_comingTo_26 (by omega) (by omega) (fun c26 => ?_) (fun c26 => ?_)
      · refine zV_iinc (L' := [some (2, t), some (0, s), some (0, j), some (0, b), some (0, acc), some (0, (i + 1))]) d_St_comingTo_44 (by decide) rfl rfl ?_
        refine zV_goto d_St_comingTo_47 ?_
        refine ih _ (by omega) _ _ rfl (by omega) (by omega) ?_
        rw [← i2, zsm_s (n := mem (t + 2) b + 1) (i := i) (by omega)]
        first | rw [zb_t (by omega)] | rw [zb_f (by omega)]
        omega
      · refine zV_iload_n d_St_comingTo_29 rfl ?_
        refine zV_aload_n d_St_comingTo_30 rfl ?_
        refine zV_iload_n d_St_comingTo_31 rfl ?_
        refine zV_iload d_St_comingTo_32 rfl ?_
        refine zV_iload_n d_St_comingTo_34 rfl ?_
        refine zS_invvE (mt' := m_St_highestBeside) (avs := [(0, b), (0, i), (0, s)]) (st := [(0, j)]) d_St_comingTo_35 l_St_160 k_St_highestBeside (kSt0 h) rfl rfl rfl rfl (s_St_highestBeside mem t b i s h hT (by omega) (by omega) (by omega)) ?_
        show zS zT m_St_comingTo (0, 0) 38 [some (2, t), some (0, s), some (0, j), some (0, b), some (0, acc), some (0, i)] [(0, (hiB mem t b i s)), (0, j)] mem _
        refine zV_icmp_gt d_St_comingTo_38 (by omega) (by omega) (fun c38 => ?_) (fun c38 => ?_)
        · refine zV_iinc (L' := [some (2, t), some (0, s), some (0, j), some (0, b), some (0, acc), some (0, (i + 1))]) d_St_comingTo_44 (by decide) rfl rfl ?_
          refine zV_goto d_St_comingTo_47 ?_
          refine ih _ (by omega) _ _ rfl (by omega) (by omega) ?_
          rw [← i2, zsm_s (n := mem (t + 2) b + 1) (i := i) (by omega)]
          first | rw [zb_t (by omega)] | rw [zb_f (by omega)]
          omega
        · refine zV_iinc (L' := [some (2, t), some (0, s), some (0, j), some (0, b), some (0, (acc + 1)), some (0, i)]) d_St_comingTo_41 (by decide) rfl rfl ?_
          refine zV_iinc (L' := [some (2, t), some (0, s), some (0, j), some (0, b), some (0, (acc + 1)), some (0, (i + 1))]) d_St_comingTo_44 (by decide) rfl rfl ?_
          refine zV_goto d_St_comingTo_47 ?_
          refine ih _ (by omega) _ _ rfl (by omega) (by omega) ?_
          rw [← i2, zsm_s (n := mem (t + 2) b + 1) (i := i) (by omega)]
          first | rw [zb_t (by omega)] | rw [zb_f (by omega)]
          omega
theorem s_St_comingTo (mem : zMem) (t s j b : Int) (h : isSt t) (hT : okT mem t) (hs : 0 ≤ s ∧ s < 25) (hj : I32 j) (hb : 0 ≤ b ∧ b < 25) : zF m_St_comingTo [(2, t), (0, s), (0, j), (0, b)] mem (fun r m => r = some (0, cmA mem t s j b) ∧ m = mem) := by
  obtain ⟨t1, t2, t3, t4, t5, t6⟩ := id hT
  have f1 := t4 b hb.1 hb.2
  refine zF_of (by decide) (Nat.le_of_ble_eq_true rfl) ?_
  show zS zT m_St_comingTo (0, 0) 0 [some (2, t), some (0, s), some (0, j), some (0, b), none, none] [] mem _
  refine zV_iconst d_St_comingTo_0 ?_
  refine zV_istore (L' := [some (2, t), some (0, s), some (0, j), some (0, b), some (0, 0), none]) d_St_comingTo_1 (by decide) rfl ?_
  refine zV_iconst d_St_comingTo_3 ?_
  refine zV_istore (L' := [some (2, t), some (0, s), some (0, j), some (0, b), some (0, 0), some (0, 0)]) d_St_comingTo_4 (by decide) rfl ?_
  exact s_St_comingTo_l mem t s j b h hT hs hj hb _ 0 0 (by omega) (by omega) (by rw [Int.zero_add]; rfl)
theorem s_St_neighboursOf_l (mem : zMem) (t s j : Int) (h : isSt t) (hT : okT mem t) (hs : 0 ≤ s ∧ s < mem t 2) (hj : 0 ≤ j ∧ j ≤ mem (t + 2) s) (f0 : Int) : zS zT m_St_neighboursOf (0, 0) 31 [some (2, t), some (0, s), some (0, j), some (0, f0), some (0, (s - 1))] [] mem (zQs (fun r m => r = some (0, f0 + nb2 mem t s j (s - 1) + nb2 mem t s j (s - 1 + 2)) ∧ m = mem)) := by
  obtain ⟨t1, t2, t3, t4, t5, t6⟩ := id hT
  have f1 := t4 s hs.1 (by omega)
  have n1 : (0 ≤ (s - 1) ∧ (s - 1) < mem t 2) → s % 2 = 0 → nb2 mem t s j (s - 1) = hiB mem t s j (s - 1) - lwB mem t s j (s - 1) + 1 := fun a1 a2 => by unfold nb2; rw [cif_t a1, if_pos a2]
  have n2 : (0 ≤ (s - 1) ∧ (s - 1) < mem t 2) → ¬ s % 2 = 0 → nb2 mem t s j (s - 1) = cmA mem t s j (s - 1) := fun a1 a2 => by unfold nb2; rw [cif_t a1, if_neg a2]
  have n3 : ¬ (0 ≤ (s - 1) ∧ (s - 1) < mem t 2) → nb2 mem t s j (s - 1) = 0 := fun a1 => by unfold nb2; rw [cif_f a1]
  have p1 : (0 ≤ (s - 1 + 2) ∧ (s - 1 + 2) < mem t 2) → s % 2 = 0 → nb2 mem t s j (s - 1 + 2) = hiB mem t s j (s - 1 + 2) - lwB mem t s j (s - 1 + 2) + 1 := fun a1 a2 => by unfold nb2; rw [cif_t a1, if_pos a2]
  have p2 : (0 ≤ (s - 1 + 2) ∧ (s - 1 + 2) < mem t 2) → ¬ s % 2 = 0 → nb2 mem t s j (s - 1 + 2) = cmA mem t s j (s - 1 + 2) := fun a1 a2 => by unfold nb2; rw [cif_t a1, if_neg a2]
  have p3 : ¬ (0 ≤ (s - 1 + 2) ∧ (s - 1 + 2) < mem t 2) → nb2 mem t s j (s - 1 + 2) = 0 := fun a1 => by unfold nb2; rw [cif_f a1]
  have n9 : ∀ x y : Int, nb2 mem t s j (s - 1) = x → nb2 mem t s j (s - 1 + 2) = y → f0 + nb2 mem t s j (s - 1) + nb2 mem t s j (s - 1 + 2) = f0 + x + y := fun x y a1 a2 => by rw [a1, a2]
  refine zV_iload d_St_neighboursOf_31 rfl ?_
  refine zV_iload_n d_St_neighboursOf_33 rfl ?_
  refine zV_iconst d_St_neighboursOf_34 ?_
  refine zV_iadd d_St_neighboursOf_35 ?_
  refine zV_icmp_gt d_St_neighboursOf_36 (by omega) (by omega) (fun c36 => absurd c36 (by omega)) (fun c36 => ?_)
  refine zV_aload_n d_St_neighboursOf_39 rfl ?_
  refine zV_iload d_St_neighboursOf_40 rfl ?_
  refine zS_invvE (mt' := m_St_has) (avs := [(0, (s - 1))]) (st := []) d_St_neighboursOf_42 l_St_149 k_St_has (kSt0 h) rfl rfl rfl rfl (s_St_has mem t (s - 1) h (by omega) (by omega)) ?_
  show zS zT m_St_neighboursOf (0, 0) 45 [some (2, t), some (0, s), some (0, j), some (0, f0), some (0, (s - 1))] [(0, (zb (0 ≤ (s - 1) ∧ (s - 1) < mem t 2)))] mem _
  refine zV_ifb_eq d_St_neighboursOf_45 (fun c45 => ?_) (fun c45 => ?_)
  · refine zV_iinc (L' := [some (2, t), some (0, s), some (0, j), some (0, f0), some (0, ((s - 1) + 2))]) d_St_neighboursOf_87 (by decide) rfl rfl ?_
    refine zV_goto d_St_neighboursOf_90 ?_
    refine zV_iload d_St_neighboursOf_31 rfl ?_
    refine zV_iload_n d_St_neighboursOf_33 rfl ?_
    refine zV_iconst d_St_neighboursOf_34 ?_
    refine zV_iadd d_St_neighboursOf_35 ?_
    refine zV_icmp_gt d_St_neighboursOf_36 (by omega) (by omega) (fun c36 => absurd c36 (by omega)) (fun c36 => ?_)
    refine zV_aload_n d_St_neighboursOf_39 rfl ?_
    refine zV_iload d_St_neighboursOf_40 rfl ?_
    refine zS_invvE (mt' := m_St_has) (avs := [(0, ((s - 1) + 2))]) (st := []) d_St_neighboursOf_42 l_St_149 k_St_has (kSt0 h) rfl rfl rfl rfl (s_St_has mem t ((s - 1) + 2) h (by omega) (by omega)) ?_
    show zS zT m_St_neighboursOf (0, 0) 45 [some (2, t), some (0, s), some (0, j), some (0, f0), some (0, ((s - 1) + 2))] [(0, (zb (0 ≤ ((s - 1) + 2) ∧ ((s - 1) + 2) < mem t 2)))] mem _
    refine zV_ifb_eq d_St_neighboursOf_45 (fun c45 => ?_) (fun c45 => ?_)
    · refine zV_iinc (L' := [some (2, t), some (0, s), some (0, j), some (0, f0), some (0, (((s - 1) + 2) + 2))]) d_St_neighboursOf_87 (by decide) rfl rfl ?_
      refine zV_goto d_St_neighboursOf_90 ?_
      refine zV_iload d_St_neighboursOf_31 rfl ?_
      refine zV_iload_n d_St_neighboursOf_33 rfl ?_
      refine zV_iconst d_St_neighboursOf_34 ?_
      refine zV_iadd d_St_neighboursOf_35 ?_
      refine zV_icmp_gt d_St_neighboursOf_36 (by omega) (by omega) (fun c36 => ?_) (fun c36 => absurd c36 (by omega))
      refine zV_iload_n d_St_neighboursOf_93 rfl ?_
      exact zS_iret d_St_neighboursOf_94 rfl ⟨Nat.zero_le _, Nat.zero_le _⟩ (by refine ⟨?_, rfl⟩; rw [n9 _ _ (by first | exact n1 (by omega) (by omega) | exact n2 (by omega) (by omega) | exact n3 (by omega)) (by first | exact p1 (by omega) (by omega) | exact p2 (by omega) (by omega) | exact p3 (by omega))] <;> (congr 2 <;> omega))
    · refine zV_iload_n d_St_neighboursOf_48 rfl ?_
      refine zV_iload_n d_St_neighboursOf_49 rfl ?_
      refine zV_iconst d_St_neighboursOf_50 ?_
      refine zV_irem_p d_St_neighboursOf_51 (by omega) (by omega) ?_
      refine zV_if_ne d_St_neighboursOf_52 (by omega) (fun c52 => ?_) (fun c52 => ?_)
      · refine zV_aload_n d_St_neighboursOf_77 rfl ?_
        refine zV_iload_n d_St_neighboursOf_78 rfl ?_
        refine zV_iload_n d_St_neighboursOf_79 rfl ?_
        refine zV_iload d_St_neighboursOf_80 rfl ?_
        refine zS_invvE (mt' := m_St_comingTo) (avs := [(0, s), (0, j), (0, ((s - 1) + 2))]) (st := [(0, f0)]) d_St_neighboursOf_82 l_St_167 k_St_comingTo (kSt0 h) rfl rfl rfl rfl (s_St_comingTo mem t s j ((s - 1) + 2) h hT (by omega) (by omega) (by omega)) ?_
        show zS zT m_St_neighboursOf (0, 0) 85 [some (2, t), some (0, s), some (0, j), some (0, f0), some (0, ((s - 1) + 2))] [(0, (cmA mem t s j ((s - 1) + 2))), (0, f0)] mem _
        refine zV_iadd d_St_neighboursOf_85 ?_
        refine zV_istore_n (L' := [some (2, t), some (0, s), some (0, j), some (0, (f0 + (cmA mem t s j ((s - 1) + 2)))), some (0, ((s - 1) + 2))]) d_St_neighboursOf_86 (by decide) rfl ?_
        refine zV_iinc (L' := [some (2, t), some (0, s), some (0, j), some (0, (f0 + (cmA mem t s j ((s - 1) + 2)))), some (0, (((s - 1) + 2) + 2))]) d_St_neighboursOf_87 (by decide) rfl rfl ?_
        refine zV_goto d_St_neighboursOf_90 ?_
        refine zV_iload d_St_neighboursOf_31 rfl ?_
        refine zV_iload_n d_St_neighboursOf_33 rfl ?_
        refine zV_iconst d_St_neighboursOf_34 ?_
        refine zV_iadd d_St_neighboursOf_35 ?_
        refine zV_icmp_gt d_St_neighboursOf_36 (by omega) (by omega) (fun c36 => ?_) (fun c36 => absurd c36 (by omega))
        refine zV_iload_n d_St_neighboursOf_93 rfl ?_
        exact zS_iret d_St_neighboursOf_94 rfl ⟨Nat.zero_le _, Nat.zero_le _⟩ (by refine ⟨?_, rfl⟩; rw [n9 _ _ (by first | exact n1 (by omega) (by omega) | exact n2 (by omega) (by omega) | exact n3 (by omega)) (by first | exact p1 (by omega) (by omega) | exact p2 (by omega) (by omega) | exact p3 (by omega))] <;> (congr 2 <;> omega))
      · refine zV_aload_n d_St_neighboursOf_55 rfl ?_
        refine zV_iload_n d_St_neighboursOf_56 rfl ?_
        refine zV_iload_n d_St_neighboursOf_57 rfl ?_
        refine zV_iload d_St_neighboursOf_58 rfl ?_
        refine zS_invvE (mt' := m_St_highestBeside) (avs := [(0, s), (0, j), (0, ((s - 1) + 2))]) (st := [(0, f0)]) d_St_neighboursOf_60 l_St_160 k_St_highestBeside (kSt0 h) rfl rfl rfl rfl (s_St_highestBeside mem t s j ((s - 1) + 2) h hT (by omega) (by omega) (by omega)) ?_
        show zS zT m_St_neighboursOf (0, 0) 63 [some (2, t), some (0, s), some (0, j), some (0, f0), some (0, ((s - 1) + 2))] [(0, (hiB mem t s j ((s - 1) + 2))), (0, f0)] mem _
        refine zV_aload_n d_St_neighboursOf_63 rfl ?_
        refine zV_iload_n d_St_neighboursOf_64 rfl ?_
        refine zV_iload_n d_St_neighboursOf_65 rfl ?_
        refine zV_iload d_St_neighboursOf_66 rfl ?_
        refine zS_invvE (mt' := m_St_lowestBeside) (avs := [(0, s), (0, j), (0, ((s - 1) + 2))]) (st := [(0, (hiB mem t s j ((s - 1) + 2))), (0, f0)]) d_St_neighboursOf_68 l_St_164 k_St_lowestBeside (kSt0 h) rfl rfl rfl rfl (s_St_lowestBeside mem t s j ((s - 1) + 2) h hT (by omega) (by omega) (by omega)) ?_
        show zS zT m_St_neighboursOf (0, 0) 71 [some (2, t), some (0, s), some (0, j), some (0, f0), some (0, ((s - 1) + 2))] [(0, (lwB mem t s j ((s - 1) + 2))), (0, (hiB mem t s j ((s - 1) + 2))), (0, f0)] mem _
        refine zV_isub d_St_neighboursOf_71 ?_
        refine zV_iconst d_St_neighboursOf_72 ?_
        refine zV_iadd d_St_neighboursOf_73 ?_
        refine zV_goto d_St_neighboursOf_74 ?_
        refine zV_iadd d_St_neighboursOf_85 ?_
        refine zV_istore_n (L' := [some (2, t), some (0, s), some (0, j), some (0, (f0 + (((hiB mem t s j ((s - 1) + 2)) - (lwB mem t s j ((s - 1) + 2))) + 1))), some (0, ((s - 1) + 2))]) d_St_neighboursOf_86 (by decide) rfl ?_
        refine zV_iinc (L' := [some (2, t), some (0, s), some (0, j), some (0, (f0 + (((hiB mem t s j ((s - 1) + 2)) - (lwB mem t s j ((s - 1) + 2))) + 1))), some (0, (((s - 1) + 2) + 2))]) d_St_neighboursOf_87 (by decide) rfl rfl ?_
        refine zV_goto d_St_neighboursOf_90 ?_
        refine zV_iload d_St_neighboursOf_31 rfl ?_
        refine zV_iload_n d_St_neighboursOf_33 rfl ?_
        refine zV_iconst d_St_neighboursOf_34 ?_
        refine zV_iadd d_St_neighboursOf_35 ?_
        refine zV_icmp_gt d_St_neighboursOf_36 (by omega) (by omega) (fun c36 => ?_) (fun c36 => absurd c36 (by omega))
        refine zV_iload_n d_St_neighboursOf_93 rfl ?_
        exact zS_iret d_St_neighboursOf_94 rfl ⟨Nat.zero_le _, Nat.zero_le _⟩ (by refine ⟨?_, rfl⟩; rw [n9 _ _ (by first | exact n1 (by omega) (by omega) | exact n2 (by omega) (by omega) | exact n3 (by omega)) (by first | exact p1 (by omega) (by omega) | exact p2 (by omega) (by omega) | exact p3 (by omega))] <;> (congr 2 <;> omega))
  · refine zV_iload_n d_St_neighboursOf_48 rfl ?_
    refine zV_iload_n d_St_neighboursOf_49 rfl ?_
    refine zV_iconst d_St_neighboursOf_50 ?_
    refine zV_irem_p d_St_neighboursOf_51 (by omega) (by omega) ?_
    refine zV_if_ne d_St_neighboursOf_52 (by omega) (fun c52 => ?_) (fun c52 => ?_)
    · refine zV_aload_n d_St_neighboursOf_77 rfl ?_
      refine zV_iload_n d_St_neighboursOf_78 rfl ?_
      refine zV_iload_n d_St_neighboursOf_79 rfl ?_
      refine zV_iload d_St_neighboursOf_80 rfl ?_
      refine zS_invvE (mt' := m_St_comingTo) (avs := [(0, s), (0, j), (0, (s - 1))]) (st := [(0, f0)]) d_St_neighboursOf_82 l_St_167 k_St_comingTo (kSt0 h) rfl rfl rfl rfl (s_St_comingTo mem t s j (s - 1) h hT (by omega) (by omega) (by omega)) ?_
      show zS zT m_St_neighboursOf (0, 0) 85 [some (2, t), some (0, s), some (0, j), some (0, f0), some (0, (s - 1))] [(0, (cmA mem t s j (s - 1))), (0, f0)] mem _
      refine zV_iadd d_St_neighboursOf_85 ?_
      refine zV_istore_n (L' := [some (2, t), some (0, s), some (0, j), some (0, (f0 + (cmA mem t s j (s - 1)))), some (0, (s - 1))]) d_St_neighboursOf_86 (by decide) rfl ?_
      refine zV_iinc (L' := [some (2, t), some (0, s), some (0, j), some (0, (f0 + (cmA mem t s j (s - 1)))), some (0, ((s - 1) + 2))]) d_St_neighboursOf_87 (by decide) rfl rfl ?_
      refine zV_goto d_St_neighboursOf_90 ?_
      refine zV_iload d_St_neighboursOf_31 rfl ?_
      refine zV_iload_n d_St_neighboursOf_33 rfl ?_
      refine zV_iconst d_St_neighboursOf_34 ?_
      refine zV_iadd d_St_neighboursOf_35 ?_
      refine zV_icmp_gt d_St_neighboursOf_36 (by omega) (by omega) (fun c36 => absurd c36 (by omega)) (fun c36 => ?_)
      refine zV_aload_n d_St_neighboursOf_39 rfl ?_
      refine zV_iload d_St_neighboursOf_40 rfl ?_
      refine zS_invvE (mt' := m_St_has) (avs := [(0, ((s - 1) + 2))]) (st := []) d_St_neighboursOf_42 l_St_149 k_St_has (kSt0 h) rfl rfl rfl rfl (s_St_has mem t ((s - 1) + 2) h (by omega) (by omega)) ?_
      show zS zT m_St_neighboursOf (0, 0) 45 [some (2, t), some (0, s), some (0, j), some (0, (f0 + (cmA mem t s j (s - 1)))), some (0, ((s - 1) + 2))] [(0, (zb (0 ≤ ((s - 1) + 2) ∧ ((s - 1) + 2) < mem t 2)))] mem _
      refine zV_ifb_eq d_St_neighboursOf_45 (fun c45 => ?_) (fun c45 => ?_)
      · refine zV_iinc (L' := [some (2, t), some (0, s), some (0, j), some (0, (f0 + (cmA mem t s j (s - 1)))), some (0, (((s - 1) + 2) + 2))]) d_St_neighboursOf_87 (by decide) rfl rfl ?_
        refine zV_goto d_St_neighboursOf_90 ?_
        refine zV_iload d_St_neighboursOf_31 rfl ?_
        refine zV_iload_n d_St_neighboursOf_33 rfl ?_
        refine zV_iconst d_St_neighboursOf_34 ?_
        refine zV_iadd d_St_neighboursOf_35 ?_
        refine zV_icmp_gt d_St_neighboursOf_36 (by omega) (by omega) (fun c36 => ?_) (fun c36 => absurd c36 (by omega))
        refine zV_iload_n d_St_neighboursOf_93 rfl ?_
        exact zS_iret d_St_neighboursOf_94 rfl ⟨Nat.zero_le _, Nat.zero_le _⟩ (by refine ⟨?_, rfl⟩; rw [n9 _ _ (by first | exact n1 (by omega) (by omega) | exact n2 (by omega) (by omega) | exact n3 (by omega)) (by first | exact p1 (by omega) (by omega) | exact p2 (by omega) (by omega) | exact p3 (by omega))] <;> (congr 2 <;> omega))
      · refine zV_iload_n d_St_neighboursOf_48 rfl ?_
        refine zV_iload_n d_St_neighboursOf_49 rfl ?_
        refine zV_iconst d_St_neighboursOf_50 ?_
        refine zV_irem_p d_St_neighboursOf_51 (by omega) (by omega) ?_
        refine zV_if_ne d_St_neighboursOf_52 (by omega) (fun c52 => ?_) (fun c52 => ?_)
        · refine zV_aload_n d_St_neighboursOf_77 rfl ?_
          refine zV_iload_n d_St_neighboursOf_78 rfl ?_
          refine zV_iload_n d_St_neighboursOf_79 rfl ?_
          refine zV_iload d_St_neighboursOf_80 rfl ?_
          refine zS_invvE (mt' := m_St_comingTo) (avs := [(0, s), (0, j), (0, ((s - 1) + 2))]) (st := [(0, (f0 + (cmA mem t s j (s - 1))))]) d_St_neighboursOf_82 l_St_167 k_St_comingTo (kSt0 h) rfl rfl rfl rfl (s_St_comingTo mem t s j ((s - 1) + 2) h hT (by omega) (by omega) (by omega)) ?_
          show zS zT m_St_neighboursOf (0, 0) 85 [some (2, t), some (0, s), some (0, j), some (0, (f0 + (cmA mem t s j (s - 1)))), some (0, ((s - 1) + 2))] [(0, (cmA mem t s j ((s - 1) + 2))), (0, (f0 + (cmA mem t s j (s - 1))))] mem _
          refine zV_iadd d_St_neighboursOf_85 ?_
          refine zV_istore_n (L' := [some (2, t), some (0, s), some (0, j), some (0, ((f0 + (cmA mem t s j (s - 1))) + (cmA mem t s j ((s - 1) + 2)))), some (0, ((s - 1) + 2))]) d_St_neighboursOf_86 (by decide) rfl ?_
          refine zV_iinc (L' := [some (2, t), some (0, s), some (0, j), some (0, ((f0 + (cmA mem t s j (s - 1))) + (cmA mem t s j ((s - 1) + 2)))), some (0, (((s - 1) + 2) + 2))]) d_St_neighboursOf_87 (by decide) rfl rfl ?_
          refine zV_goto d_St_neighboursOf_90 ?_
          refine zV_iload d_St_neighboursOf_31 rfl ?_
          refine zV_iload_n d_St_neighboursOf_33 rfl ?_
          refine zV_iconst d_St_neighboursOf_34 ?_
          refine zV_iadd d_St_neighboursOf_35 ?_
          refine zV_icmp_gt d_St_neighboursOf_36 (by omega) (by omega) (fun c36 => ?_) (fun c36 => absurd c36 (by omega))
          refine zV_iload_n d_St_neighboursOf_93 rfl ?_
          exact zS_iret d_St_neighboursOf_94 rfl ⟨Nat.zero_le _, Nat.zero_le _⟩ (by refine ⟨?_, rfl⟩; rw [n9 _ _ (by first | exact n1 (by omega) (by omega) | exact n2 (by omega) (by omega) | exact n3 (by omega)) (by first | exact p1 (by omega) (by omega) | exact p2 (by omega) (by omega) | exact p3 (by omega))] <;> (congr 2 <;> omega))
        · refine zV_aload_n d_St_neighboursOf_55 rfl ?_
          refine zV_iload_n d_St_neighboursOf_56 rfl ?_
          refine zV_iload_n d_St_neighboursOf_57 rfl ?_
          refine zV_iload d_St_neighboursOf_58 rfl ?_
          refine zS_invvE (mt' := m_St_highestBeside) (avs := [(0, s), (0, j), (0, ((s - 1) + 2))]) (st := [(0, (f0 + (cmA mem t s j (s - 1))))]) d_St_neighboursOf_60 l_St_160 k_St_highestBeside (kSt0 h) rfl rfl rfl rfl (s_St_highestBeside mem t s j ((s - 1) + 2) h hT (by omega) (by omega) (by omega)) ?_
          show zS zT m_St_neighboursOf (0, 0) 63 [some (2, t), some (0, s), some (0, j), some (0, (f0 + (cmA mem t s j (s - 1)))), some (0, ((s - 1) + 2))] [(0, (hiB mem t s j ((s - 1) + 2))), (0, (f0 + (cmA mem t s j (s - 1))))] mem _
          refine zV_aload_n d_St_neighboursOf_63 rfl ?_
          refine zV_iload_n d_St_neighboursOf_64 rfl ?_
          refine zV_iload_n d_St_neighboursOf_65 rfl ?_
          refine zV_iload d_St_neighboursOf_66 rfl ?_
          refine zS_invvE (mt' := m_St_lowestBeside) (avs := [(0, s), (0, j), (0, ((s - 1) + 2))]) (st := [(0, (hiB mem t s j ((s - 1) + 2))), (0, (f0 + (cmA mem t s j (s - 1))))]) d_St_neighboursOf_68 l_St_164 k_St_lowestBeside (kSt0 h) rfl rfl rfl rfl (s_St_lowestBeside mem t s j ((s - 1) + 2) h hT (by omega) (by omega) (by omega)) ?_
          show zS zT m_St_neighboursOf (0, 0) 71 [some (2, t), some (0, s), some (0, j), some (0, (f0 + (cmA mem t s j (s - 1)))), some (0, ((s - 1) + 2))] [(0, (lwB mem t s j ((s - 1) + 2))), (0, (hiB mem t s j ((s - 1) + 2))), (0, (f0 + (cmA mem t s j (s - 1))))] mem _
          refine zV_isub d_St_neighboursOf_71 ?_
          refine zV_iconst d_St_neighboursOf_72 ?_
          refine zV_iadd d_St_neighboursOf_73 ?_
          refine zV_goto d_St_neighboursOf_74 ?_
          refine zV_iadd d_St_neighboursOf_85 ?_
          refine zV_istore_n (L' := [some (2, t), some (0, s), some (0, j), some (0, ((f0 + (cmA mem t s j (s - 1))) + (((hiB mem t s j ((s - 1) + 2)) - (lwB mem t s j ((s - 1) + 2))) + 1))), some (0, ((s - 1) + 2))]) d_St_neighboursOf_86 (by decide) rfl ?_
          refine zV_iinc (L' := [some (2, t), some (0, s), some (0, j), some (0, ((f0 + (cmA mem t s j (s - 1))) + (((hiB mem t s j ((s - 1) + 2)) - (lwB mem t s j ((s - 1) + 2))) + 1))), some (0, (((s - 1) + 2) + 2))]) d_St_neighboursOf_87 (by decide) rfl rfl ?_
          refine zV_goto d_St_neighboursOf_90 ?_
          refine zV_iload d_St_neighboursOf_31 rfl ?_
          refine zV_iload_n d_St_neighboursOf_33 rfl ?_
          refine zV_iconst d_St_neighboursOf_34 ?_
          refine zV_iadd d_St_neighboursOf_35 ?_
          refine zV_icmp_gt d_St_neighboursOf_36 (by omega) (by omega) (fun c36 => ?_) (fun c36 => absurd c36 (by omega))
          refine zV_iload_n d_St_neighboursOf_93 rfl ?_
          exact zS_iret d_St_neighboursOf_94 rfl ⟨Nat.zero_le _, Nat.zero_le _⟩ (by refine ⟨?_, rfl⟩; rw [n9 _ _ (by first | exact n1 (by omega) (by omega) | exact n2 (by omega) (by omega) | exact n3 (by omega)) (by first | exact p1 (by omega) (by omega) | exact p2 (by omega) (by omega) | exact p3 (by omega))] <;> (congr 2 <;> omega))
    · refine zV_aload_n d_St_neighboursOf_55 rfl ?_
      refine zV_iload_n d_St_neighboursOf_56 rfl ?_
      refine zV_iload_n d_St_neighboursOf_57 rfl ?_
      refine zV_iload d_St_neighboursOf_58 rfl ?_
      refine zS_invvE (mt' := m_St_highestBeside) (avs := [(0, s), (0, j), (0, (s - 1))]) (st := [(0, f0)]) d_St_neighboursOf_60 l_St_160 k_St_highestBeside (kSt0 h) rfl rfl rfl rfl (s_St_highestBeside mem t s j (s - 1) h hT (by omega) (by omega) (by omega)) ?_
      show zS zT m_St_neighboursOf (0, 0) 63 [some (2, t), some (0, s), some (0, j), some (0, f0), some (0, (s - 1))] [(0, (hiB mem t s j (s - 1))), (0, f0)] mem _
      refine zV_aload_n d_St_neighboursOf_63 rfl ?_
      refine zV_iload_n d_St_neighboursOf_64 rfl ?_
      refine zV_iload_n d_St_neighboursOf_65 rfl ?_
      refine zV_iload d_St_neighboursOf_66 rfl ?_
      refine zS_invvE (mt' := m_St_lowestBeside) (avs := [(0, s), (0, j), (0, (s - 1))]) (st := [(0, (hiB mem t s j (s - 1))), (0, f0)]) d_St_neighboursOf_68 l_St_164 k_St_lowestBeside (kSt0 h) rfl rfl rfl rfl (s_St_lowestBeside mem t s j (s - 1) h hT (by omega) (by omega) (by omega)) ?_
      show zS zT m_St_neighboursOf (0, 0) 71 [some (2, t), some (0, s), some (0, j), some (0, f0), some (0, (s - 1))] [(0, (lwB mem t s j (s - 1))), (0, (hiB mem t s j (s - 1))), (0, f0)] mem _
      refine zV_isub d_St_neighboursOf_71 ?_
      refine zV_iconst d_St_neighboursOf_72 ?_
      refine zV_iadd d_St_neighboursOf_73 ?_
      refine zV_goto d_St_neighboursOf_74 ?_
      refine zV_iadd d_St_neighboursOf_85 ?_
      refine zV_istore_n (L' := [some (2, t), some (0, s), some (0, j), some (0, (f0 + (((hiB mem t s j (s - 1)) - (lwB mem t s j (s - 1))) + 1))), some (0, (s - 1))]) d_St_neighboursOf_86 (by decide) rfl ?_
      refine zV_iinc (L' := [some (2, t), some (0, s), some (0, j), some (0, (f0 + (((hiB mem t s j (s - 1)) - (lwB mem t s j (s - 1))) + 1))), some (0, ((s - 1) + 2))]) d_St_neighboursOf_87 (by decide) rfl rfl ?_
      refine zV_goto d_St_neighboursOf_90 ?_
      refine zV_iload d_St_neighboursOf_31 rfl ?_
      refine zV_iload_n d_St_neighboursOf_33 rfl ?_
      refine zV_iconst d_St_neighboursOf_34 ?_
      refine zV_iadd d_St_neighboursOf_35 ?_
      refine zV_icmp_gt d_St_neighboursOf_36 (by omega) (by omega) (fun c36 => absurd c36 (by omega)) (fun c36 => ?_)
      refine zV_aload_n d_St_neighboursOf_39 rfl ?_
      refine zV_iload d_St_neighboursOf_40 rfl ?_
      refine zS_invvE (mt' := m_St_has) (avs := [(0, ((s - 1) + 2))]) (st := []) d_St_neighboursOf_42 l_St_149 k_St_has (kSt0 h) rfl rfl rfl rfl (s_St_has mem t ((s - 1) + 2) h (by omega) (by omega)) ?_
      show zS zT m_St_neighboursOf (0, 0) 45 [some (2, t), some (0, s), some (0, j), some (0, (f0 + (((hiB mem t s j (s - 1)) - (lwB mem t s j (s - 1))) + 1))), some (0, ((s - 1) + 2))] [(0, (zb (0 ≤ ((s - 1) + 2) ∧ ((s - 1) + 2) < mem t 2)))] mem _
      refine zV_ifb_eq d_St_neighboursOf_45 (fun c45 => ?_) (fun c45 => ?_)
      · refine zV_iinc (L' := [some (2, t), some (0, s), some (0, j), some (0, (f0 + (((hiB mem t s j (s - 1)) - (lwB mem t s j (s - 1))) + 1))), some (0, (((s - 1) + 2) + 2))]) d_St_neighboursOf_87 (by decide) rfl rfl ?_
        refine zV_goto d_St_neighboursOf_90 ?_
        refine zV_iload d_St_neighboursOf_31 rfl ?_
        refine zV_iload_n d_St_neighboursOf_33 rfl ?_
        refine zV_iconst d_St_neighboursOf_34 ?_
        refine zV_iadd d_St_neighboursOf_35 ?_
        refine zV_icmp_gt d_St_neighboursOf_36 (by omega) (by omega) (fun c36 => ?_) (fun c36 => absurd c36 (by omega))
        refine zV_iload_n d_St_neighboursOf_93 rfl ?_
        exact zS_iret d_St_neighboursOf_94 rfl ⟨Nat.zero_le _, Nat.zero_le _⟩ (by refine ⟨?_, rfl⟩; rw [n9 _ _ (by first | exact n1 (by omega) (by omega) | exact n2 (by omega) (by omega) | exact n3 (by omega)) (by first | exact p1 (by omega) (by omega) | exact p2 (by omega) (by omega) | exact p3 (by omega))] <;> (congr 2 <;> omega))
      · refine zV_iload_n d_St_neighboursOf_48 rfl ?_
        refine zV_iload_n d_St_neighboursOf_49 rfl ?_
        refine zV_iconst d_St_neighboursOf_50 ?_
        refine zV_irem_p d_St_neighboursOf_51 (by omega) (by omega) ?_
        refine zV_if_ne d_St_neighboursOf_52 (by omega) (fun c52 => ?_) (fun c52 => ?_)
        · refine zV_aload_n d_St_neighboursOf_77 rfl ?_
          refine zV_iload_n d_St_neighboursOf_78 rfl ?_
          refine zV_iload_n d_St_neighboursOf_79 rfl ?_
          refine zV_iload d_St_neighboursOf_80 rfl ?_
          refine zS_invvE (mt' := m_St_comingTo) (avs := [(0, s), (0, j), (0, ((s - 1) + 2))]) (st := [(0, (f0 + (((hiB mem t s j (s - 1)) - (lwB mem t s j (s - 1))) + 1)))]) d_St_neighboursOf_82 l_St_167 k_St_comingTo (kSt0 h) rfl rfl rfl rfl (s_St_comingTo mem t s j ((s - 1) + 2) h hT (by omega) (by omega) (by omega)) ?_
          show zS zT m_St_neighboursOf (0, 0) 85 [some (2, t), some (0, s), some (0, j), some (0, (f0 + (((hiB mem t s j (s - 1)) - (lwB mem t s j (s - 1))) + 1))), some (0, ((s - 1) + 2))] [(0, (cmA mem t s j ((s - 1) + 2))), (0, (f0 + (((hiB mem t s j (s - 1)) - (lwB mem t s j (s - 1))) + 1)))] mem _
          refine zV_iadd d_St_neighboursOf_85 ?_
          refine zV_istore_n (L' := [some (2, t), some (0, s), some (0, j), some (0, ((f0 + (((hiB mem t s j (s - 1)) - (lwB mem t s j (s - 1))) + 1)) + (cmA mem t s j ((s - 1) + 2)))), some (0, ((s - 1) + 2))]) d_St_neighboursOf_86 (by decide) rfl ?_
          refine zV_iinc (L' := [some (2, t), some (0, s), some (0, j), some (0, ((f0 + (((hiB mem t s j (s - 1)) - (lwB mem t s j (s - 1))) + 1)) + (cmA mem t s j ((s - 1) + 2)))), some (0, (((s - 1) + 2) + 2))]) d_St_neighboursOf_87 (by decide) rfl rfl ?_
          refine zV_goto d_St_neighboursOf_90 ?_
          refine zV_iload d_St_neighboursOf_31 rfl ?_
          refine zV_iload_n d_St_neighboursOf_33 rfl ?_
          refine zV_iconst d_St_neighboursOf_34 ?_
          refine zV_iadd d_St_neighboursOf_35 ?_
          refine zV_icmp_gt d_St_neighboursOf_36 (by omega) (by omega) (fun c36 => ?_) (fun c36 => absurd c36 (by omega))
          refine zV_iload_n d_St_neighboursOf_93 rfl ?_
          exact zS_iret d_St_neighboursOf_94 rfl ⟨Nat.zero_le _, Nat.zero_le _⟩ (by refine ⟨?_, rfl⟩; rw [n9 _ _ (by first | exact n1 (by omega) (by omega) | exact n2 (by omega) (by omega) | exact n3 (by omega)) (by first | exact p1 (by omega) (by omega) | exact p2 (by omega) (by omega) | exact p3 (by omega))] <;> (congr 2 <;> omega))
        · refine zV_aload_n d_St_neighboursOf_55 rfl ?_
          refine zV_iload_n d_St_neighboursOf_56 rfl ?_
          refine zV_iload_n d_St_neighboursOf_57 rfl ?_
          refine zV_iload d_St_neighboursOf_58 rfl ?_
          refine zS_invvE (mt' := m_St_highestBeside) (avs := [(0, s), (0, j), (0, ((s - 1) + 2))]) (st := [(0, (f0 + (((hiB mem t s j (s - 1)) - (lwB mem t s j (s - 1))) + 1)))]) d_St_neighboursOf_60 l_St_160 k_St_highestBeside (kSt0 h) rfl rfl rfl rfl (s_St_highestBeside mem t s j ((s - 1) + 2) h hT (by omega) (by omega) (by omega)) ?_
          show zS zT m_St_neighboursOf (0, 0) 63 [some (2, t), some (0, s), some (0, j), some (0, (f0 + (((hiB mem t s j (s - 1)) - (lwB mem t s j (s - 1))) + 1))), some (0, ((s - 1) + 2))] [(0, (hiB mem t s j ((s - 1) + 2))), (0, (f0 + (((hiB mem t s j (s - 1)) - (lwB mem t s j (s - 1))) + 1)))] mem _
          refine zV_aload_n d_St_neighboursOf_63 rfl ?_
          refine zV_iload_n d_St_neighboursOf_64 rfl ?_
          refine zV_iload_n d_St_neighboursOf_65 rfl ?_
          refine zV_iload d_St_neighboursOf_66 rfl ?_
          refine zS_invvE (mt' := m_St_lowestBeside) (avs := [(0, s), (0, j), (0, ((s - 1) + 2))]) (st := [(0, (hiB mem t s j ((s - 1) + 2))), (0, (f0 + (((hiB mem t s j (s - 1)) - (lwB mem t s j (s - 1))) + 1)))]) d_St_neighboursOf_68 l_St_164 k_St_lowestBeside (kSt0 h) rfl rfl rfl rfl (s_St_lowestBeside mem t s j ((s - 1) + 2) h hT (by omega) (by omega) (by omega)) ?_
          show zS zT m_St_neighboursOf (0, 0) 71 [some (2, t), some (0, s), some (0, j), some (0, (f0 + (((hiB mem t s j (s - 1)) - (lwB mem t s j (s - 1))) + 1))), some (0, ((s - 1) + 2))] [(0, (lwB mem t s j ((s - 1) + 2))), (0, (hiB mem t s j ((s - 1) + 2))), (0, (f0 + (((hiB mem t s j (s - 1)) - (lwB mem t s j (s - 1))) + 1)))] mem _
          refine zV_isub d_St_neighboursOf_71 ?_
          refine zV_iconst d_St_neighboursOf_72 ?_
          refine zV_iadd d_St_neighboursOf_73 ?_
          refine zV_goto d_St_neighboursOf_74 ?_
          refine zV_iadd d_St_neighboursOf_85 ?_
          refine zV_istore_n (L' := [some (2, t), some (0, s), some (0, j), some (0, ((f0 + (((hiB mem t s j (s - 1)) - (lwB mem t s j (s - 1))) + 1)) + (((hiB mem t s j ((s - 1) + 2)) - (lwB mem t s j ((s - 1) + 2))) + 1))), some (0, ((s - 1) + 2))]) d_St_neighboursOf_86 (by decide) rfl ?_
          refine zV_iinc (L' := [some (2, t), some (0, s), some (0, j), some (0, ((f0 + (((hiB mem t s j (s - 1)) - (lwB mem t s j (s - 1))) + 1)) + (((hiB mem t s j ((s - 1) + 2)) - (lwB mem t s j ((s - 1) + 2))) + 1))), some (0, (((s - 1) + 2) + 2))]) d_St_neighboursOf_87 (by decide) rfl rfl ?_
          refine zV_goto d_St_neighboursOf_90 ?_
          refine zV_iload d_St_neighboursOf_31 rfl ?_
          refine zV_iload_n d_St_neighboursOf_33 rfl ?_
          refine zV_iconst d_St_neighboursOf_34 ?_
          refine zV_iadd d_St_neighboursOf_35 ?_
          refine zV_icmp_gt d_St_neighboursOf_36 (by omega) (by omega) (fun c36 => ?_) (fun c36 => absurd c36 (by omega))
          refine zV_iload_n d_St_neighboursOf_93 rfl ?_
          exact zS_iret d_St_neighboursOf_94 rfl ⟨Nat.zero_le _, Nat.zero_le _⟩ (by refine ⟨?_, rfl⟩; rw [n9 _ _ (by first | exact n1 (by omega) (by omega) | exact n2 (by omega) (by omega) | exact n3 (by omega)) (by first | exact p1 (by omega) (by omega) | exact p2 (by omega) (by omega) | exact p3 (by omega))] <;> (congr 2 <;> omega))
theorem s_St_neighboursOf (mem : zMem) (t s j : Int) (h : isSt t) (hT : okT mem t) (hs : 0 ≤ s ∧ s < mem t 2) (hj : 0 ≤ j ∧ j ≤ mem (t + 2) s) : zF m_St_neighboursOf [(2, t), (0, s), (0, j)] mem (fun r m => r = some (0, nbA mem t s j) ∧ m = mem) := by
  obtain ⟨t1, t2, t3, t4, t5, t6⟩ := id hT
  have f1 := t4 s hs.1 (by omega)
  have e9 : s - 1 + 2 = s + 1 := by omega
  refine zF_of (by decide) (Nat.le_of_ble_eq_true rfl) ?_
  show zS zT m_St_neighboursOf (0, 0) 0 [some (2, t), some (0, s), some (0, j), none, none] [] mem _
  refine zV_iload_n d_St_neighboursOf_0 rfl ?_
  refine zV_if_le d_St_neighboursOf_1 (by omega) (fun c1 => ?_) (fun c1 => ?_)
  · refine zV_iconst d_St_neighboursOf_8 ?_
    refine zV_iload_n d_St_neighboursOf_9 rfl ?_
    refine zV_aload_n d_St_neighboursOf_10 rfl ?_
    refine zS_getr (r := (t + 2)) d_St_neighboursOf_11 f_St_27 (kSt0 h) rfl rfl ?_
    refine zV_iload_n d_St_neighboursOf_14 rfl ?_
    refine zS_iald d_St_neighboursOf_15 (kSt2 h) rfl ⟨by omega, by omega⟩ ?_
    refine zV_icmp_ge d_St_neighboursOf_16 (by omega) (by omega) (fun c16 => ?_) (fun c16 => ?_)
    · refine zV_iconst d_St_neighboursOf_23 ?_
      refine zV_iadd d_St_neighboursOf_24 ?_
      refine zV_istore_n (L' := [some (2, t), some (0, s), some (0, j), some (0, (0 + 0)), none]) d_St_neighboursOf_25 (by decide) rfl ?_
      refine zV_iload_n d_St_neighboursOf_26 rfl ?_
      refine zV_iconst d_St_neighboursOf_27 ?_
      refine zV_isub d_St_neighboursOf_28 ?_
      refine zV_istore (L' := [some (2, t), some (0, s), some (0, j), some (0, (0 + 0)), some (0, (s - 1))]) d_St_neighboursOf_29 (by decide) rfl ?_
      have hw := s_St_neighboursOf_l mem t s j h hT hs hj (0 + 0)
      rw [e9] at hw
      unfold nbA
      first | rw [zb_t (show 0 < j by omega)] | rw [zb_f (show ¬ 0 < j by omega)]
      first | rw [zb_t (show j < mem (t + 2) s by omega)] | rw [zb_f (show ¬ j < mem (t + 2) s by omega)]
      exact hw
    · refine zV_iconst d_St_neighboursOf_19 ?_
      refine zV_goto d_St_neighboursOf_20 ?_
      refine zV_iadd d_St_neighboursOf_24 ?_
      refine zV_istore_n (L' := [some (2, t), some (0, s), some (0, j), some (0, (0 + 1)), none]) d_St_neighboursOf_25 (by decide) rfl ?_
      refine zV_iload_n d_St_neighboursOf_26 rfl ?_
      refine zV_iconst d_St_neighboursOf_27 ?_
      refine zV_isub d_St_neighboursOf_28 ?_
      refine zV_istore (L' := [some (2, t), some (0, s), some (0, j), some (0, (0 + 1)), some (0, (s - 1))]) d_St_neighboursOf_29 (by decide) rfl ?_
      have hw := s_St_neighboursOf_l mem t s j h hT hs hj (0 + 1)
      rw [e9] at hw
      unfold nbA
      first | rw [zb_t (show 0 < j by omega)] | rw [zb_f (show ¬ 0 < j by omega)]
      first | rw [zb_t (show j < mem (t + 2) s by omega)] | rw [zb_f (show ¬ j < mem (t + 2) s by omega)]
      exact hw
  · refine zV_iconst d_St_neighboursOf_4 ?_
    refine zV_goto d_St_neighboursOf_5 ?_
    refine zV_iload_n d_St_neighboursOf_9 rfl ?_
    refine zV_aload_n d_St_neighboursOf_10 rfl ?_
    refine zS_getr (r := (t + 2)) d_St_neighboursOf_11 f_St_27 (kSt0 h) rfl rfl ?_
    refine zV_iload_n d_St_neighboursOf_14 rfl ?_
    refine zS_iald d_St_neighboursOf_15 (kSt2 h) rfl ⟨by omega, by omega⟩ ?_
    refine zV_icmp_ge d_St_neighboursOf_16 (by omega) (by omega) (fun c16 => ?_) (fun c16 => ?_)
    · refine zV_iconst d_St_neighboursOf_23 ?_
      refine zV_iadd d_St_neighboursOf_24 ?_
      refine zV_istore_n (L' := [some (2, t), some (0, s), some (0, j), some (0, (1 + 0)), none]) d_St_neighboursOf_25 (by decide) rfl ?_
      refine zV_iload_n d_St_neighboursOf_26 rfl ?_
      refine zV_iconst d_St_neighboursOf_27 ?_
      refine zV_isub d_St_neighboursOf_28 ?_
      refine zV_istore (L' := [some (2, t), some (0, s), some (0, j), some (0, (1 + 0)), some (0, (s - 1))]) d_St_neighboursOf_29 (by decide) rfl ?_
      have hw := s_St_neighboursOf_l mem t s j h hT hs hj (1 + 0)
      rw [e9] at hw
      unfold nbA
      first | rw [zb_t (show 0 < j by omega)] | rw [zb_f (show ¬ 0 < j by omega)]
      first | rw [zb_t (show j < mem (t + 2) s by omega)] | rw [zb_f (show ¬ j < mem (t + 2) s by omega)]
      exact hw
    · refine zV_iconst d_St_neighboursOf_19 ?_
      refine zV_goto d_St_neighboursOf_20 ?_
      refine zV_iadd d_St_neighboursOf_24 ?_
      refine zV_istore_n (L' := [some (2, t), some (0, s), some (0, j), some (0, (1 + 1)), none]) d_St_neighboursOf_25 (by decide) rfl ?_
      refine zV_iload_n d_St_neighboursOf_26 rfl ?_
      refine zV_iconst d_St_neighboursOf_27 ?_
      refine zV_isub d_St_neighboursOf_28 ?_
      refine zV_istore (L' := [some (2, t), some (0, s), some (0, j), some (0, (1 + 1)), some (0, (s - 1))]) d_St_neighboursOf_29 (by decide) rfl ?_
      have hw := s_St_neighboursOf_l mem t s j h hT hs hj (1 + 1)
      rw [e9] at hw
      unfold nbA
      first | rw [zb_t (show 0 < j by omega)] | rw [zb_f (show ¬ 0 < j by omega)]
      first | rw [zb_t (show j < mem (t + 2) s by omega)] | rw [zb_f (show ¬ j < mem (t + 2) s by omega)]
      exact hw
def okFo (mem : zMem) : Prop := (mem 73 1 = 0 ∨ mem 73 1 = 1) ∧ ∀ c, 0 ≤ c → c < 4 → 0 ≤ mem 74 c ∧ mem 74 c ≤ 9
def hdX (mem : zMem) (t s j : Int) : Prop := (mem 73 1 = 1 ∧ ∀ c, 0 ≤ c → c < mem t 3 → mem 74 c ≠ 0 → alw (mem 74 c) (sdS mem t s j c)) ∨ (mem 73 1 = 0 ∧ ∃ c, 0 ≤ c ∧ c < mem t 3 ∧ mem 74 c ≠ 0 ∧ alw (mem 74 c) (sdS mem t s j c))
theorem s_Fo_holdsIn_l (mem : zMem) (t s j : Int) (h : isSt t) (hT : okT mem t) (hF : okFo mem) (hs : 0 ≤ s ∧ s < 25) (hj : I32 j) : ∀ (i : Int), (0 ≤ i) → (i ≤ mem t 3) → (∀ c, 0 ≤ c → c < i → mem 74 c ≠ 0 → zb (alw (mem 74 c) (sdS mem t s j c)) = mem 73 1) → zS zT m_Fo_holdsIn (0, 0) 3 [some (2, 73), some (2, t), some (0, s), some (0, j), some (0, i)] [] mem (zQs (fun r m => r = some (0, zb (hdX mem t s j)) ∧ m = mem)) := by
  intro i
  obtain ⟨k9, hk9⟩ : ∃ k : Nat, (mem t 3 - i).toNat = k := ⟨_, rfl⟩
  induction k9 using Nat.strongRecOn generalizing i with
  | _ k9 ih =>
    intro i0 i1 i2
    obtain ⟨t1, t2, t3, t4, t5, t6⟩ := id hT
    obtain ⟨g1, g2⟩ := id hF
    have f1 := g2 i i0
    refine zV_iload d_Fo_holdsIn_3 rfl ?_
    refine zV_aload_n d_Fo_holdsIn_5 rfl ?_
    refine zS_get d_Fo_holdsIn_6 f_Fo_19 (kSt0 h) rfl ?_
    refine zV_icmp_ge d_Fo_holdsIn_9 (by omega) (by omega) (fun c9 => ?_) (fun c9 => ?_)
    · refine zV_aload_n d_Fo_holdsIn_66 rfl ?_
      refine zS_get d_Fo_holdsIn_67 f_Fo_15 rfl rfl ?_
      exact zS_zret d_Fo_holdsIn_70 rfl ⟨Nat.zero_le _, Nat.zero_le _⟩ g1 ⟨by rcases g1 with g | g <;> rw [g]; rw [zb_f (show ¬ hdX mem t s j from fun z => by rcases z with ⟨z, _⟩ | ⟨_, c, a1, a2, a3, a4⟩; omega; have := i2 c a1 (by omega) a3; rw [zb_t a4] at this; omega)]; rw [zb_t (show hdX mem t s j from Or.inl ⟨g, fun c a1 a2 a3 => zb_1.mp ((i2 c a1 (by omega) a3).trans g)⟩)], rfl⟩
    · refine zV_aload_n d_Fo_holdsIn_12 rfl ?_
      refine zS_getr (r := 74) d_Fo_holdsIn_13 f_Fo_9 rfl rfl rfl ?_
      refine zV_iload d_Fo_holdsIn_16 rfl ?_
      refine zS_iald d_Fo_holdsIn_18 rfl rfl ⟨by omega, by omega⟩ ?_
      refine zV_if_eq d_Fo_holdsIn_19 (by omega) (fun c19 => ?_) (fun c19 => ?_)
      · refine zV_iinc (L' := [some (2, 73), some (2, t), some (0, s), some (0, j), some (0, (i + 1))]) d_Fo_holdsIn_60 (by decide) rfl rfl ?_
        refine zV_goto d_Fo_holdsIn_63 ?_
        refine ih _ (by omega) _ rfl (by omega) (by omega) (fun c a1 a2 a3 => ?_)
        by_cases e9 : c = i
        · subst e9; first | exact absurd c19 a3 | assumption
        · exact i2 c a1 (by omega) a3
      · refine zV_aload_n d_Fo_holdsIn_22 rfl ?_
        refine zS_getr (r := 74) d_Fo_holdsIn_23 f_Fo_9 rfl rfl rfl ?_
        refine zV_iload d_Fo_holdsIn_26 rfl ?_
        refine zS_iald d_Fo_holdsIn_28 rfl rfl ⟨by omega, by omega⟩ ?_
        refine zV_aload_n d_Fo_holdsIn_29 rfl ?_
        refine zV_iload_n d_Fo_holdsIn_30 rfl ?_
        refine zV_iload_n d_Fo_holdsIn_31 rfl ?_
        refine zV_iload d_Fo_holdsIn_32 rfl ?_
        refine zS_invvE (mt' := m_St_sideOf) (avs := [(0, s), (0, j), (0, i)]) (st := [(0, (mem 74 i))]) d_Fo_holdsIn_34 l_Fo_25 k_St_sideOf (kSt0 h) rfl rfl rfl rfl (s_St_sideOf mem t s j i h hT (by omega) (by omega) (by omega)) ?_
        show zS zT m_Fo_holdsIn (0, 0) 37 [some (2, 73), some (2, t), some (0, s), some (0, j), some (0, i)] [(0, (sdS mem t s j i)), (0, (mem 74 i))] mem _
        refine zS_invsE (mt' := m_Fo_allows) (avs := [(0, (mem 74 i)), (0, (sdS mem t s j i))]) (st := []) d_Fo_holdsIn_37 l_Fo_29 k_Fo_allows rfl rfl rfl rfl (s_Fo_allows mem (mem 74 i) (sdS mem t s j i) (by omega) (sdS_i _ _ _ _ _)) ?_
        show zS zT m_Fo_holdsIn (0, 0) 40 [some (2, 73), some (2, t), some (0, s), some (0, j), some (0, i)] [(0, (zb (alw (mem 74 i) (sdS mem t s j i))))] mem _
        refine zV_aload_n d_Fo_holdsIn_40 rfl ?_
        refine zS_get d_Fo_holdsIn_41 f_Fo_15 rfl rfl ?_
        refine zV_icmp_eq d_Fo_holdsIn_44 (zb_r _) (by omega) (fun c44 => ?_) (fun c44 => ?_)
        · refine zV_iinc (L' := [some (2, 73), some (2, t), some (0, s), some (0, j), some (0, (i + 1))]) d_Fo_holdsIn_60 (by decide) rfl rfl ?_
          refine zV_goto d_Fo_holdsIn_63 ?_
          refine ih _ (by omega) _ rfl (by omega) (by omega) (fun c a1 a2 a3 => ?_)
          by_cases e9 : c = i
          · subst e9; first | exact absurd c19 a3 | assumption
          · exact i2 c a1 (by omega) a3
        · refine zV_aload_n d_Fo_holdsIn_47 rfl ?_
          refine zS_get d_Fo_holdsIn_48 f_Fo_15 rfl rfl ?_
          refine zV_if_ne d_Fo_holdsIn_51 (by omega) (fun c51 => ?_) (fun c51 => ?_)
          · refine zV_iconst d_Fo_holdsIn_58 ?_
            exact zS_zret d_Fo_holdsIn_59 rfl ⟨Nat.zero_le _, Nat.zero_le _⟩ (Or.inl rfl) ⟨by rw [zb_f (show ¬ hdX mem t s j from fun z => by rcases z with ⟨_, z⟩ | ⟨z, _⟩; exact c44 ((zb_t (z i i0 (by omega) c19)).trans (by omega)); omega)], rfl⟩
          · refine zV_iconst d_Fo_holdsIn_54 ?_
            refine zV_goto d_Fo_holdsIn_55 ?_
            exact zS_zret d_Fo_holdsIn_59 rfl ⟨Nat.zero_le _, Nat.zero_le _⟩ (Or.inr rfl) ⟨by rw [zb_t (show hdX mem t s j from Or.inr ⟨by omega, i, i0, by omega, c19, Classical.byContradiction fun z => c44 ((zb_f z).trans (by omega))⟩)], rfl⟩
theorem s_Fo_holdsIn (mem : zMem) (t s j : Int) (h : isSt t) (hT : okT mem t) (hF : okFo mem) (hs : 0 ≤ s ∧ s < 25) (hj : I32 j) : zF m_Fo_holdsIn [(2, 73), (2, t), (0, s), (0, j)] mem (fun r m => r = some (0, zb (hdX mem t s j)) ∧ m = mem) := by
  obtain ⟨t1, t2, t3, t4, t5, t6⟩ := id hT
  refine zF_of (by decide) (Nat.le_of_ble_eq_true rfl) ?_
  show zS zT m_Fo_holdsIn (0, 0) 0 [some (2, 73), some (2, t), some (0, s), some (0, j), none] [] mem _
  refine zV_iconst d_Fo_holdsIn_0 ?_
  refine zV_istore (L' := [some (2, 73), some (2, t), some (0, s), some (0, j), some (0, 0)]) d_Fo_holdsIn_1 (by decide) rfl ?_
  exact s_Fo_holdsIn_l mem t s j h hT hF hs hj 0 (by omega) (by omega) (fun c a1 a2 => by omega)
