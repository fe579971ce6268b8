/-! the reference: neighbours -/
def ctM (mem : zMem) (a x b : Int) : Int := zfo (fun k t => if mem 82 k ≠ 3 ∧ mem 90 (4 * a + k) = x then mem 90 (4 * b + k) else t) (mem 80 2 - 0).toNat 0 0
theorem ctM_r {mem : zMem} {a x b : Int} (hL : okL mem) (hb : 0 ≤ b ∧ b < mem 80 15) : 0 ≤ ctM mem a x b ∧ ctM mem a x b ≤ 4 := by
  have k1 := hL.1.1
  unfold ctM
  refine zfo_inv (f := (fun k t => if mem 82 k ≠ 3 ∧ mem 90 (4 * a + k) = x then mem 90 (4 * b + k) else t)) (fun _ t => 0 ≤ t ∧ t ≤ 4) (mem 80 2 - 0).toNat 0 0 ⟨by decide, by decide⟩ (fun j t q1 q2 h => ?_)
  show 0 ≤ (if mem 82 j ≠ 3 ∧ mem 90 (4 * a + j) = x then mem 90 (4 * b + j) else t) ∧ (if mem 82 j ≠ 3 ∧ mem 90 (4 * a + j) = x then mem 90 (4 * b + j) else t) ≤ 4
  split
  · exact hL.2.2.2.2 b j hb.1 hb.2 q1 (by omega)
  · exact h
theorem s_Mo_comesTo_l (mem : zMem) (a x b : Int) (hL : okL mem) (ha : 0 ≤ a ∧ a < mem 80 15) (hx : I32 x) (hb : 0 ≤ b ∧ b < mem 80 15) (q : Int) : ∀ (k : Int) (t : Int), (0 ≤ k ∧ k ≤ mem 80 2) → (zfo (fun k t => if mem 82 k ≠ 3 ∧ mem 90 (4 * a + k) = x then mem 90 (4 * b + k) else t) (mem 80 2 - k).toNat k t = q) → zS zT m_Mo_comesTo (0, 0) 6 [some (2, 80), some (0, a), some (0, x), some (0, b), some (0, t), some (0, k)] [] mem (zQs (fun r m => r = some (0, q) ∧ m = mem)) := by
  intro k t
  obtain ⟨k9, hk9⟩ : ∃ kq : Nat, (mem 80 2 - k).toNat = kq := ⟨_, rfl⟩
  induction k9 using Nat.strongRecOn generalizing k t with
  | _ k9 ih =>
    intro i0 i1
    have k1 := hL.1.1
    have b1 := hL.2.2.1.1
    have r1 := hL.2.2.2.2 a k ha.1 ha.2 i0.1
    have r2 := hL.2.2.2.2 b k hb.1 hb.2 i0.1
    refine zV_iload d_Mo_comesTo_6 rfl ?_
    refine zV_aload_n d_Mo_comesTo_8 rfl ?_
    refine zS_get d_Mo_comesTo_9 f_Mo_103 rfl rfl ?_
    refine zV_icmp_ge d_Mo_comesTo_12 (by omega) (by omega) (fun c12 => ?_) (fun c12 => ?_)
    · refine zV_iload d_Mo_comesTo_63 rfl ?_
      exact zS_iret d_Mo_comesTo_65 rfl ⟨Nat.zero_le _, Nat.zero_le _⟩ ⟨by rw [← i1, zfo_e (n := mem 80 2) (by omega)], rfl⟩
    · refine zV_aload_n d_Mo_comesTo_15 rfl ?_
      refine zV_iload d_Mo_comesTo_16 rfl ?_
      refine zS_invvE (mt' := m_Mo_isFlat) (avs := [(0, k)]) (st := []) d_Mo_comesTo_18 l_Mo_173 k_Mo_isFlat rfl rfl rfl rfl rfl (s_Mo_isFlat mem k hL.1 (by omega)) ?_
      show zS zT m_Mo_comesTo (0, 0) 21 [some (2, 80), some (0, a), some (0, x), some (0, b), some (0, t), some (0, k)] [(0, (zb (mem 82 k = 3)))] mem _
      refine zV_ifb_ne d_Mo_comesTo_21 (fun c21 => ?_) (fun c21 => ?_)
      · refine zV_iload d_Mo_comesTo_53 rfl ?_
        refine zV_istore (L' := [some (2, 80), some (0, a), some (0, x), some (0, b), some (0, t), some (0, k)]) d_Mo_comesTo_55 (by decide) rfl ?_
        refine zV_iinc (L' := [some (2, 80), some (0, a), some (0, x), some (0, b), some (0, t), some (0, (k + 1))]) d_Mo_comesTo_57 (by decide) rfl rfl ?_
        refine zV_goto d_Mo_comesTo_60 ?_
        refine ih _ (by omega) (k + 1) _ rfl (by omega) ?_
        rw [← i1, zfo_s (n := mem 80 2) (i := k) (by omega)]
        first | rw [if_pos (show mem 82 k ≠ 3 ∧ mem 90 (4 * a + k) = x by omega)] | rw [if_neg (show ¬ (mem 82 k ≠ 3 ∧ mem 90 (4 * a + k) = x) by omega)]
      · refine zV_aload_n d_Mo_comesTo_24 rfl ?_
        refine zS_getr (r := 90) d_Mo_comesTo_25 f_Mo_38 rfl rfl rfl ?_
        refine zV_iconst d_Mo_comesTo_28 ?_
        refine zV_iload_n d_Mo_comesTo_29 rfl ?_
        refine zV_imul d_Mo_comesTo_30 ?_
        refine zV_iload d_Mo_comesTo_31 rfl ?_
        refine zV_iadd d_Mo_comesTo_33 ?_
        refine zS_iald d_Mo_comesTo_34 rfl rfl ⟨by omega, by omega⟩ ?_
        refine zV_iload_n d_Mo_comesTo_35 rfl ?_
        refine zV_icmp_ne d_Mo_comesTo_36 (by omega) (by omega) (fun c36 => ?_) (fun c36 => ?_)
        · refine zV_iload d_Mo_comesTo_53 rfl ?_
          refine zV_istore (L' := [some (2, 80), some (0, a), some (0, x), some (0, b), some (0, t), some (0, k)]) d_Mo_comesTo_55 (by decide) rfl ?_
          refine zV_iinc (L' := [some (2, 80), some (0, a), some (0, x), some (0, b), some (0, t), some (0, (k + 1))]) d_Mo_comesTo_57 (by decide) rfl rfl ?_
          refine zV_goto d_Mo_comesTo_60 ?_
          refine ih _ (by omega) (k + 1) _ rfl (by omega) ?_
          rw [← i1, zfo_s (n := mem 80 2) (i := k) (by omega)]
          first | rw [if_pos (show mem 82 k ≠ 3 ∧ mem 90 (4 * a + k) = x by omega)] | rw [if_neg (show ¬ (mem 82 k ≠ 3 ∧ mem 90 (4 * a + k) = x) by omega)]
        · refine zV_aload_n d_Mo_comesTo_39 rfl ?_
          refine zS_getr (r := 90) d_Mo_comesTo_40 f_Mo_38 rfl rfl rfl ?_
          refine zV_iconst d_Mo_comesTo_43 ?_
          refine zV_iload_n d_Mo_comesTo_44 rfl ?_
          refine zV_imul d_Mo_comesTo_45 ?_
          refine zV_iload d_Mo_comesTo_46 rfl ?_
          refine zV_iadd d_Mo_comesTo_48 ?_
          refine zS_iald d_Mo_comesTo_49 rfl rfl ⟨by omega, by omega⟩ ?_
          refine zV_goto d_Mo_comesTo_50 ?_
          refine zV_istore (L' := [some (2, 80), some (0, a), some (0, x), some (0, b), some (0, (mem 90 ((4 * b) + k))), some (0, k)]) d_Mo_comesTo_55 (by decide) rfl ?_
          refine zV_iinc (L' := [some (2, 80), some (0, a), some (0, x), some (0, b), some (0, (mem 90 ((4 * b) + k))), some (0, (k + 1))]) d_Mo_comesTo_57 (by decide) rfl rfl ?_
          refine zV_goto d_Mo_comesTo_60 ?_
          refine ih _ (by omega) (k + 1) _ rfl (by omega) ?_
          rw [← i1, zfo_s (n := mem 80 2) (i := k) (by omega)]
          first | rw [if_pos (show mem 82 k ≠ 3 ∧ mem 90 (4 * a + k) = x by omega)] | rw [if_neg (show ¬ (mem 82 k ≠ 3 ∧ mem 90 (4 * a + k) = x) by omega)]
theorem s_Mo_comesTo (mem : zMem) (a x b : Int) (hL : okL mem) (ha : 0 ≤ a ∧ a < mem 80 15) (hx : I32 x) (hb : 0 ≤ b ∧ b < mem 80 15) : zF m_Mo_comesTo [(2, 80), (0, a), (0, x), (0, b)] mem (fun r m => r = some (0, ctM mem a x b) ∧ m = mem) := by
  have k1 := hL.1.1
  refine zF_of (by decide) (Nat.le_of_ble_eq_true rfl) ?_
  show zS zT m_Mo_comesTo (0, 0) 0 [some (2, 80), some (0, a), some (0, x), some (0, b), none, none] [] mem _
  refine zV_iconst d_Mo_comesTo_0 ?_
  refine zV_istore (L' := [some (2, 80), some (0, a), some (0, x), some (0, b), some (0, 0), none]) d_Mo_comesTo_1 (by decide) rfl ?_
  refine zV_iconst d_Mo_comesTo_3 ?_
  refine zV_istore (L' := [some (2, 80), some (0, a), some (0, x), some (0, b), some (0, 0), some (0, 0)]) d_Mo_comesTo_4 (by decide) rfl ?_
  exact s_Mo_comesTo_l mem a x b hL ha hx hb _ 0 0 (by omega) rfl
def bsM (mem : zMem) (a j b i : Int) : Prop := if j % 2 = 1 then i = 2 * ctM mem a (j / 2) b + 1 else (if j = 0 then 0 else 2 * ctM mem a (j / 2 - 1) b + 1) ≤ i ∧ i ≤ (if j / 2 = mem 91 a then 2 * mem 91 b else 2 * ctM mem a (j / 2) b + 1)
def nbM (mem : zMem) (n j m i : Int) : Prop := (n = m ∧ (j - i = 1 ∨ i - j = 1)) ∨ ((n - m = 1 ∨ m - n = 1) ∧ (if n % 2 = 0 then bsM mem n j m i else bsM mem m i n j))
theorem s_Mo_isBeside (mem : zMem) (a j b i : Int) (hL : okL mem) (ha : 0 ≤ a ∧ a < mem 80 15) (hj : 0 ≤ j ∧ j < 100) (hb : 0 ≤ b ∧ b < mem 80 15) (hi : 0 ≤ i ∧ i < 100) : zF m_Mo_isBeside [(2, 80), (0, a), (0, j), (0, b), (0, i)] mem (fun r m => r = some (0, zb (bsM mem a j b i)) ∧ m = mem) := by
  have b1 := hL.2.2.1.1
  have s1 := hL.2.2.2.1 a ha.1 ha.2
  have s2 := hL.2.2.2.1 b hb.1 hb.2
  have c1 := ctM_r (a := a) (x := j / 2) hL hb
  have c2 := ctM_r (a := a) (x := j / 2 - 1) hL hb
  refine zF_of (by decide) (Nat.le_of_ble_eq_true rfl) ?_
  show zS zT m_Mo_isBeside (0, 0) 0 [some (2, 80), some (0, a), some (0, j), some (0, b), some (0, i), none, none] [] mem _
  refine zV_iload_n d_Mo_isBeside_0 rfl ?_
  refine zV_iconst d_Mo_isBeside_1 ?_
  refine zV_irem_p d_Mo_isBeside_2 (by omega) (by omega) ?_
  refine zV_iconst d_Mo_isBeside_3 ?_
  refine zV_icmp_ne d_Mo_isBeside_4 (by omega) (by omega) (fun c4 => ?_) (fun c4 => ?_)
  · refine zV_iload_n d_Mo_isBeside_31 rfl ?_
    refine zV_if_ne d_Mo_isBeside_32 (by omega) (fun c32 => ?_) (fun c32 => ?_)
    · refine zV_iconst d_Mo_isBeside_39 ?_
      refine zV_aload_n d_Mo_isBeside_40 rfl ?_
      refine zV_iload_n d_Mo_isBeside_41 rfl ?_
      refine zV_iload_n d_Mo_isBeside_42 rfl ?_
      refine zV_iconst d_Mo_isBeside_43 ?_
      refine zV_idiv_p d_Mo_isBeside_44 (by omega) (by omega) ?_
      refine zV_iconst d_Mo_isBeside_45 ?_
      refine zV_isub d_Mo_isBeside_46 ?_
      refine zV_iload_n d_Mo_isBeside_47 rfl ?_
      refine zS_invvE (mt' := m_Mo_comesTo) (avs := [(0, a), (0, ((j / 2) - 1)), (0, b)]) (st := [(0, 2)]) d_Mo_isBeside_48 l_Mo_233 k_Mo_comesTo rfl rfl rfl rfl rfl (s_Mo_comesTo mem a ((j / 2) - 1) b hL (by omega) (by omega) (by omega)) ?_
      show zS zT m_Mo_isBeside (0, 0) 51 [some (2, 80), some (0, a), some (0, j), some (0, b), some (0, i), none, none] [(0, (ctM mem a ((j / 2) - 1) b)), (0, 2)] mem _
      refine zV_imul d_Mo_isBeside_51 ?_
      refine zV_iconst d_Mo_isBeside_52 ?_
      refine zV_iadd d_Mo_isBeside_53 ?_
      refine zV_istore (L' := [some (2, 80), some (0, a), some (0, j), some (0, b), some (0, i), some (0, ((2 * (ctM mem a ((j / 2) - 1) b)) + 1)), none]) d_Mo_isBeside_54 (by decide) rfl ?_
      refine zV_iload_n d_Mo_isBeside_56 rfl ?_
      refine zV_iconst d_Mo_isBeside_57 ?_
      refine zV_idiv_p d_Mo_isBeside_58 (by omega) (by omega) ?_
      refine zV_aload_n d_Mo_isBeside_59 rfl ?_
      refine zS_getr (r := 91) d_Mo_isBeside_60 f_Mo_41 rfl rfl rfl ?_
      refine zV_iload_n d_Mo_isBeside_63 rfl ?_
      refine zS_iald d_Mo_isBeside_64 rfl rfl ⟨by omega, by omega⟩ ?_
      refine zV_icmp_ne d_Mo_isBeside_65 (by omega) (by omega) (fun c65 => ?_) (fun c65 => ?_)
      · refine zV_iconst d_Mo_isBeside_78 ?_
        refine zV_aload_n d_Mo_isBeside_79 rfl ?_
        refine zV_iload_n d_Mo_isBeside_80 rfl ?_
        refine zV_iload_n d_Mo_isBeside_81 rfl ?_
        refine zV_iconst d_Mo_isBeside_82 ?_
        refine zV_idiv_p d_Mo_isBeside_83 (by omega) (by omega) ?_
        refine zV_iload_n d_Mo_isBeside_84 rfl ?_
        refine zS_invvE (mt' := m_Mo_comesTo) (avs := [(0, a), (0, (j / 2)), (0, b)]) (st := [(0, 2)]) d_Mo_isBeside_85 l_Mo_233 k_Mo_comesTo rfl rfl rfl rfl rfl (s_Mo_comesTo mem a (j / 2) b hL (by omega) (by omega) (by omega)) ?_
        show zS zT m_Mo_isBeside (0, 0) 88 [some (2, 80), some (0, a), some (0, j), some (0, b), some (0, i), some (0, ((2 * (ctM mem a ((j / 2) - 1) b)) + 1)), none] [(0, (ctM mem a (j / 2) b)), (0, 2)] mem _
        refine zV_imul d_Mo_isBeside_88 ?_
        refine zV_iconst d_Mo_isBeside_89 ?_
        refine zV_iadd d_Mo_isBeside_90 ?_
        refine zV_istore (L' := [some (2, 80), some (0, a), some (0, j), some (0, b), some (0, i), some (0, ((2 * (ctM mem a ((j / 2) - 1) b)) + 1)), some (0, ((2 * (ctM mem a (j / 2) b)) + 1))]) d_Mo_isBeside_91 (by decide) rfl ?_
        refine zV_iload d_Mo_isBeside_93 rfl ?_
        refine zV_i2l d_Mo_isBeside_95 (by omega) ?_
        refine zV_iload d_Mo_isBeside_96 rfl ?_
        refine zV_i2l d_Mo_isBeside_98 (by omega) ?_
        refine zV_iload d_Mo_isBeside_99 rfl ?_
        refine zV_i2l d_Mo_isBeside_101 (by omega) ?_
        refine zS_invsE (mt' := m_Mo_in) (avs := [(1, i), (1, ((2 * (ctM mem a ((j / 2) - 1) b)) + 1)), (1, ((2 * (ctM mem a (j / 2) b)) + 1))]) (st := []) d_Mo_isBeside_102 l_Mo_80 k_Mo_in rfl rfl rfl rfl (s_Mo_in mem i ((2 * (ctM mem a ((j / 2) - 1) b)) + 1) ((2 * (ctM mem a (j / 2) b)) + 1) (by omega) (by omega) (by omega)) ?_
        show zS zT m_Mo_isBeside (0, 0) 105 [some (2, 80), some (0, a), some (0, j), some (0, b), some (0, i), some (0, ((2 * (ctM mem a ((j / 2) - 1) b)) + 1)), some (0, ((2 * (ctM mem a (j / 2) b)) + 1))] [(0, (zb (((2 * (ctM mem a ((j / 2) - 1) b)) + 1) ≤ i ∧ i ≤ ((2 * (ctM mem a (j / 2) b)) + 1))))] mem _
        exact zS_zret d_Mo_isBeside_105 rfl ⟨Nat.zero_le _, Nat.zero_le _⟩ (zb_01 _) (by refine ⟨?_, rfl⟩; congr 2; apply zb_iff; unfold bsM; ((repeat' first | rw [if_pos (by omega)] | rw [if_neg (by omega)])) <;> omega)
      · refine zV_aload_n d_Mo_isBeside_68 rfl ?_
        refine zV_iload_n d_Mo_isBeside_69 rfl ?_
        refine zS_invvE (mt' := m_Mo_cellsIn) (avs := [(0, b)]) (st := []) d_Mo_isBeside_70 l_Mo_210 k_Mo_cellsIn rfl rfl rfl rfl rfl (s_Mo_cellsIn mem b (by omega)) ?_
        show zS zT m_Mo_isBeside (0, 0) 73 [some (2, 80), some (0, a), some (0, j), some (0, b), some (0, i), some (0, ((2 * (ctM mem a ((j / 2) - 1) b)) + 1)), none] [(0, (2 * mem 91 b + 1))] mem _
        refine zV_iconst d_Mo_isBeside_73 ?_
        refine zV_isub d_Mo_isBeside_74 ?_
        refine zV_goto d_Mo_isBeside_75 ?_
        refine zV_istore (L' := [some (2, 80), some (0, a), some (0, j), some (0, b), some (0, i), some (0, ((2 * (ctM mem a ((j / 2) - 1) b)) + 1)), some (0, ((2 * mem 91 b + 1) - 1))]) d_Mo_isBeside_91 (by decide) rfl ?_
        refine zV_iload d_Mo_isBeside_93 rfl ?_
        refine zV_i2l d_Mo_isBeside_95 (by omega) ?_
        refine zV_iload d_Mo_isBeside_96 rfl ?_
        refine zV_i2l d_Mo_isBeside_98 (by omega) ?_
        refine zV_iload d_Mo_isBeside_99 rfl ?_
        refine zV_i2l d_Mo_isBeside_101 (by omega) ?_
        refine zS_invsE (mt' := m_Mo_in) (avs := [(1, i), (1, ((2 * (ctM mem a ((j / 2) - 1) b)) + 1)), (1, ((2 * mem 91 b + 1) - 1))]) (st := []) d_Mo_isBeside_102 l_Mo_80 k_Mo_in rfl rfl rfl rfl (s_Mo_in mem i ((2 * (ctM mem a ((j / 2) - 1) b)) + 1) ((2 * mem 91 b + 1) - 1) (by omega) (by omega) (by omega)) ?_
        show zS zT m_Mo_isBeside (0, 0) 105 [some (2, 80), some (0, a), some (0, j), some (0, b), some (0, i), some (0, ((2 * (ctM mem a ((j / 2) - 1) b)) + 1)), some (0, ((2 * mem 91 b + 1) - 1))] [(0, (zb (((2 * (ctM mem a ((j / 2) - 1) b)) + 1) ≤ i ∧ i ≤ ((2 * mem 91 b + 1) - 1))))] mem _
        exact zS_zret d_Mo_isBeside_105 rfl ⟨Nat.zero_le _, Nat.zero_le _⟩ (zb_01 _) (by refine ⟨?_, rfl⟩; congr 2; apply zb_iff; unfold bsM; ((repeat' first | rw [if_pos (by omega)] | rw [if_neg (by omega)])) <;> omega)
    · refine zV_iconst d_Mo_isBeside_35 ?_
      refine zV_goto d_Mo_isBeside_36 ?_
      refine zV_istore (L' := [some (2, 80), some (0, a), some (0, j), some (0, b), some (0, i), some (0, 0), none]) d_Mo_isBeside_54 (by decide) rfl ?_
      refine zV_iload_n d_Mo_isBeside_56 rfl ?_
      refine zV_iconst d_Mo_isBeside_57 ?_
      refine zV_idiv_p d_Mo_isBeside_58 (by omega) (by omega) ?_
      refine zV_aload_n d_Mo_isBeside_59 rfl ?_
      refine zS_getr (r := 91) d_Mo_isBeside_60 f_Mo_41 rfl rfl rfl ?_
      refine zV_iload_n d_Mo_isBeside_63 rfl ?_
      refine zS_iald d_Mo_isBeside_64 rfl rfl ⟨by omega, by omega⟩ ?_
      refine zV_icmp_ne d_Mo_isBeside_65 (by omega) (by omega) (fun c65 => ?_) (fun c65 => ?_)
      · refine zV_iconst d_Mo_isBeside_78 ?_
        refine zV_aload_n d_Mo_isBeside_79 rfl ?_
        refine zV_iload_n d_Mo_isBeside_80 rfl ?_
        refine zV_iload_n d_Mo_isBeside_81 rfl ?_
        refine zV_iconst d_Mo_isBeside_82 ?_
        refine zV_idiv_p d_Mo_isBeside_83 (by omega) (by omega) ?_
        refine zV_iload_n d_Mo_isBeside_84 rfl ?_
        refine zS_invvE (mt' := m_Mo_comesTo) (avs := [(0, a), (0, (j / 2)), (0, b)]) (st := [(0, 2)]) d_Mo_isBeside_85 l_Mo_233 k_Mo_comesTo rfl rfl rfl rfl rfl (s_Mo_comesTo mem a (j / 2) b hL (by omega) (by omega) (by omega)) ?_
        show zS zT m_Mo_isBeside (0, 0) 88 [some (2, 80), some (0, a), some (0, j), some (0, b), some (0, i), some (0, 0), none] [(0, (ctM mem a (j / 2) b)), (0, 2)] mem _
        refine zV_imul d_Mo_isBeside_88 ?_
        refine zV_iconst d_Mo_isBeside_89 ?_
        refine zV_iadd d_Mo_isBeside_90 ?_
        refine zV_istore (L' := [some (2, 80), some (0, a), some (0, j), some (0, b), some (0, i), some (0, 0), some (0, ((2 * (ctM mem a (j / 2) b)) + 1))]) d_Mo_isBeside_91 (by decide) rfl ?_
        refine zV_iload d_Mo_isBeside_93 rfl ?_
        refine zV_i2l d_Mo_isBeside_95 (by omega) ?_
        refine zV_iload d_Mo_isBeside_96 rfl ?_
        refine zV_i2l d_Mo_isBeside_98 (by omega) ?_
        refine zV_iload d_Mo_isBeside_99 rfl ?_
        refine zV_i2l d_Mo_isBeside_101 (by omega) ?_
        refine zS_invsE (mt' := m_Mo_in) (avs := [(1, i), (1, 0), (1, ((2 * (ctM mem a (j / 2) b)) + 1))]) (st := []) d_Mo_isBeside_102 l_Mo_80 k_Mo_in rfl rfl rfl rfl (s_Mo_in mem i 0 ((2 * (ctM mem a (j / 2) b)) + 1) (by omega) (by omega) (by omega)) ?_
        show zS zT m_Mo_isBeside (0, 0) 105 [some (2, 80), some (0, a), some (0, j), some (0, b), some (0, i), some (0, 0), some (0, ((2 * (ctM mem a (j / 2) b)) + 1))] [(0, (zb (0 ≤ i ∧ i ≤ ((2 * (ctM mem a (j / 2) b)) + 1))))] mem _
        exact zS_zret d_Mo_isBeside_105 rfl ⟨Nat.zero_le _, Nat.zero_le _⟩ (zb_01 _) (by refine ⟨?_, rfl⟩; congr 2; apply zb_iff; unfold bsM; ((repeat' first | rw [if_pos (by omega)] | rw [if_neg (by omega)])) <;> omega)
      · refine zV_aload_n d_Mo_isBeside_68 rfl ?_
        refine zV_iload_n d_Mo_isBeside_69 rfl ?_
        refine zS_invvE (mt' := m_Mo_cellsIn) (avs := [(0, b)]) (st := []) d_Mo_isBeside_70 l_Mo_210 k_Mo_cellsIn rfl rfl rfl rfl rfl (s_Mo_cellsIn mem b (by omega)) ?_
        show zS zT m_Mo_isBeside (0, 0) 73 [some (2, 80), some (0, a), some (0, j), some (0, b), some (0, i), some (0, 0), none] [(0, (2 * mem 91 b + 1))] mem _
        refine zV_iconst d_Mo_isBeside_73 ?_
        refine zV_isub d_Mo_isBeside_74 ?_
        refine zV_goto d_Mo_isBeside_75 ?_
        refine zV_istore (L' := [some (2, 80), some (0, a), some (0, j), some (0, b), some (0, i), some (0, 0), some (0, ((2 * mem 91 b + 1) - 1))]) d_Mo_isBeside_91 (by decide) rfl ?_
        refine zV_iload d_Mo_isBeside_93 rfl ?_
        refine zV_i2l d_Mo_isBeside_95 (by omega) ?_
        refine zV_iload d_Mo_isBeside_96 rfl ?_
        refine zV_i2l d_Mo_isBeside_98 (by omega) ?_
        refine zV_iload d_Mo_isBeside_99 rfl ?_
        refine zV_i2l d_Mo_isBeside_101 (by omega) ?_
        refine zS_invsE (mt' := m_Mo_in) (avs := [(1, i), (1, 0), (1, ((2 * mem 91 b + 1) - 1))]) (st := []) d_Mo_isBeside_102 l_Mo_80 k_Mo_in rfl rfl rfl rfl (s_Mo_in mem i 0 ((2 * mem 91 b + 1) - 1) (by omega) (by omega) (by omega)) ?_
        show zS zT m_Mo_isBeside (0, 0) 105 [some (2, 80), some (0, a), some (0, j), some (0, b), some (0, i), some (0, 0), some (0, ((2 * mem 91 b + 1) - 1))] [(0, (zb (0 ≤ i ∧ i ≤ ((2 * mem 91 b + 1) - 1))))] mem _
        exact zS_zret d_Mo_isBeside_105 rfl ⟨Nat.zero_le _, Nat.zero_le _⟩ (zb_01 _) (by refine ⟨?_, rfl⟩; congr 2; apply zb_iff; unfold bsM; ((repeat' first | rw [if_pos (by omega)] | rw [if_neg (by omega)])) <;> omega)
  · refine zV_iload d_Mo_isBeside_7 rfl ?_
    refine zV_iconst d_Mo_isBeside_9 ?_
    refine zV_aload_n d_Mo_isBeside_10 rfl ?_
    refine zV_iload_n d_Mo_isBeside_11 rfl ?_
    refine zV_iload_n d_Mo_isBeside_12 rfl ?_
    refine zV_iconst d_Mo_isBeside_13 ?_
    refine zV_idiv_p d_Mo_isBeside_14 (by omega) (by omega) ?_
    refine zV_iload_n d_Mo_isBeside_15 rfl ?_
    refine zS_invvE (mt' := m_Mo_comesTo) (avs := [(0, a), (0, (j / 2)), (0, b)]) (st := [(0, 2), (0, i)]) d_Mo_isBeside_16 l_Mo_233 k_Mo_comesTo rfl rfl rfl rfl rfl (s_Mo_comesTo mem a (j / 2) b hL (by omega) (by omega) (by omega)) ?_
    show zS zT m_Mo_isBeside (0, 0) 19 [some (2, 80), some (0, a), some (0, j), some (0, b), some (0, i), none, none] [(0, (ctM mem a (j / 2) b)), (0, 2), (0, i)] mem _
    refine zV_imul d_Mo_isBeside_19 ?_
    refine zV_iconst d_Mo_isBeside_20 ?_
    refine zV_iadd d_Mo_isBeside_21 ?_
    refine zV_icmp_ne d_Mo_isBeside_22 (by omega) (by omega) (fun c22 => ?_) (fun c22 => ?_)
    · refine zV_iconst d_Mo_isBeside_29 ?_
      exact zS_zret d_Mo_isBeside_30 rfl ⟨Nat.zero_le _, Nat.zero_le _⟩ (Or.inl rfl) (by refine ⟨?_, rfl⟩; first | rw [zb_t (by unfold bsM; rw [if_pos (by omega)]; omega)] | rw [zb_f (by unfold bsM; rw [if_pos (by omega)]; omega)])
    · refine zV_iconst d_Mo_isBeside_25 ?_
      refine zV_goto d_Mo_isBeside_26 ?_
      exact zS_zret d_Mo_isBeside_30 rfl ⟨Nat.zero_le _, Nat.zero_le _⟩ (Or.inr rfl) (by refine ⟨?_, rfl⟩; first | rw [zb_t (by unfold bsM; rw [if_pos (by omega)]; omega)] | rw [zb_f (by unfold bsM; rw [if_pos (by omega)]; omega)])
theorem s_Mo_isNeighbour (mem : zMem) (n j m9 i : Int) (hL : okL mem) (hn : 0 ≤ n ∧ n < mem 80 15) (hj : 0 ≤ j ∧ j < 100) (hm : 0 ≤ m9 ∧ m9 < mem 80 15) (hi : 0 ≤ i ∧ i < 100) : zF m_Mo_isNeighbour [(2, 80), (0, n), (0, j), (0, m9), (0, i)] mem (fun r m => r = some (0, zb (nbM mem n j m9 i)) ∧ m = mem) := by
  have b1 := hL.2.2.1.1
  refine zF_of (by decide) (Nat.le_of_ble_eq_true rfl) ?_
  show zS zT m_Mo_isNeighbour (0, 0) 0 [some (2, 80), some (0, n), some (0, j), some (0, m9), some (0, i), none] [] mem _
  refine zV_iload_n d_Mo_isNeighbour_0 rfl ?_
  refine zV_iload_n d_Mo_isNeighbour_1 rfl ?_
  refine zV_icmp_ne d_Mo_isNeighbour_2 (by omega) (by omega) (fun c2 => ?_) (fun c2 => ?_)
  · refine zV_iload_n d_Mo_isNeighbour_27 rfl ?_
    refine zV_iload_n d_Mo_isNeighbour_28 rfl ?_
    refine zV_isub d_Mo_isNeighbour_29 ?_
    refine zV_iconst d_Mo_isNeighbour_30 ?_
    refine zV_icmp_eq d_Mo_isNeighbour_31 (by omega) (by omega) (fun c31 => ?_) (fun c31 => ?_)
    · refine zV_iconst d_Mo_isNeighbour_41 ?_
      refine zV_goto d_Mo_isNeighbour_42 ?_
      refine zV_istore (L' := [some (2, 80), some (0, n), some (0, j), some (0, m9), some (0, i), some (0, 1)]) d_Mo_isNeighbour_46 (by decide) rfl ?_
      refine zV_iload d_Mo_isNeighbour_48 rfl ?_
      refine zV_if_eq d_Mo_isNeighbour_50 (by omega) (fun c50 => absurd c50 (by omega)) (fun c50 => ?_)
      refine zV_iload_n d_Mo_isNeighbour_53 rfl ?_
      refine zV_iconst d_Mo_isNeighbour_54 ?_
      refine zV_irem_p d_Mo_isNeighbour_55 (by omega) (by omega) ?_
      refine zV_if_ne d_Mo_isNeighbour_56 (by omega) (fun c56 => ?_) (fun c56 => ?_)
      · refine zV_aload_n d_Mo_isNeighbour_74 rfl ?_
        refine zV_iload_n d_Mo_isNeighbour_75 rfl ?_
        refine zV_iload d_Mo_isNeighbour_76 rfl ?_
        refine zV_iload_n d_Mo_isNeighbour_78 rfl ?_
        refine zV_iload_n d_Mo_isNeighbour_79 rfl ?_
        refine zS_invvE (mt' := m_Mo_isBeside) (avs := [(0, m9), (0, i), (0, n), (0, j)]) (st := []) d_Mo_isNeighbour_80 l_Mo_236 k_Mo_isBeside rfl rfl rfl rfl rfl (s_Mo_isBeside mem m9 i n j hL (by omega) (by omega) (by omega) (by omega)) ?_
        show zS zT m_Mo_isNeighbour (0, 0) 83 [some (2, 80), some (0, n), some (0, j), some (0, m9), some (0, i), some (0, 1)] [(0, (zb (bsM mem m9 i n j)))] mem _
        refine zV_ifb_eq d_Mo_isNeighbour_83 (fun c83 => ?_) (fun c83 => ?_)
        · refine zV_iconst d_Mo_isNeighbour_90 ?_
          exact zS_zret d_Mo_isNeighbour_91 rfl ⟨Nat.zero_le _, Nat.zero_le _⟩ (Or.inl rfl) (by refine ⟨?_, rfl⟩; rw [zb_f (show ¬ nbM mem n j m9 i from fun z => by rcases z with z | ⟨z, z2⟩; (omega); first | omega | (rw [if_pos (by omega)] at z2; contradiction) | (rw [if_neg (by omega)] at z2; contradiction))])
        · refine zV_iconst d_Mo_isNeighbour_86 ?_
          refine zV_goto d_Mo_isNeighbour_87 ?_
          exact zS_zret d_Mo_isNeighbour_91 rfl ⟨Nat.zero_le _, Nat.zero_le _⟩ (Or.inr rfl) (by refine ⟨?_, rfl⟩; first | rw [zb_t (show nbM mem n j m9 i from Or.inr ⟨by omega, by rw [if_pos (by omega)]; assumption⟩)] | rw [zb_t (show nbM mem n j m9 i from Or.inr ⟨by omega, by rw [if_neg (by omega)]; assumption⟩)])
      · refine zV_aload_n d_Mo_isNeighbour_59 rfl ?_
        refine zV_iload_n d_Mo_isNeighbour_60 rfl ?_
        refine zV_iload_n d_Mo_isNeighbour_61 rfl ?_
        refine zV_iload_n d_Mo_isNeighbour_62 rfl ?_
        refine zV_iload d_Mo_isNeighbour_63 rfl ?_
        refine zS_invvE (mt' := m_Mo_isBeside) (avs := [(0, n), (0, j), (0, m9), (0, i)]) (st := []) d_Mo_isNeighbour_65 l_Mo_236 k_Mo_isBeside rfl rfl rfl rfl rfl (s_Mo_isBeside mem n j m9 i hL (by omega) (by omega) (by omega) (by omega)) ?_
        show zS zT m_Mo_isNeighbour (0, 0) 68 [some (2, 80), some (0, n), some (0, j), some (0, m9), some (0, i), some (0, 1)] [(0, (zb (bsM mem n j m9 i)))] mem _
        refine zV_ifb_eq d_Mo_isNeighbour_68 (fun c68 => ?_) (fun c68 => ?_)
        · refine zV_iconst d_Mo_isNeighbour_90 ?_
          exact zS_zret d_Mo_isNeighbour_91 rfl ⟨Nat.zero_le _, Nat.zero_le _⟩ (Or.inl rfl) (by refine ⟨?_, rfl⟩; rw [zb_f (show ¬ nbM mem n j m9 i from fun z => by rcases z with z | ⟨z, z2⟩; (omega); first | omega | (rw [if_pos (by omega)] at z2; contradiction) | (rw [if_neg (by omega)] at z2; contradiction))])
        · refine zV_goto d_Mo_isNeighbour_71 ?_
          refine zV_iconst d_Mo_isNeighbour_86 ?_
          refine zV_goto d_Mo_isNeighbour_87 ?_
          exact zS_zret d_Mo_isNeighbour_91 rfl ⟨Nat.zero_le _, Nat.zero_le _⟩ (Or.inr rfl) (by refine ⟨?_, rfl⟩; first | rw [zb_t (show nbM mem n j m9 i from Or.inr ⟨by omega, by rw [if_pos (by omega)]; assumption⟩)] | rw [zb_t (show nbM mem n j m9 i from Or.inr ⟨by omega, by rw [if_neg (by omega)]; assumption⟩)])
    · refine zV_iload_n d_Mo_isNeighbour_34 rfl ?_
      refine zV_iload_n d_Mo_isNeighbour_35 rfl ?_
      refine zV_isub d_Mo_isNeighbour_36 ?_
      refine zV_iconst d_Mo_isNeighbour_37 ?_
      refine zV_icmp_ne d_Mo_isNeighbour_38 (by omega) (by omega) (fun c38 => ?_) (fun c38 => ?_)
      · refine zV_iconst d_Mo_isNeighbour_45 ?_
        refine zV_istore (L' := [some (2, 80), some (0, n), some (0, j), some (0, m9), some (0, i), some (0, 0)]) d_Mo_isNeighbour_46 (by decide) rfl ?_
        refine zV_iload d_Mo_isNeighbour_48 rfl ?_
        refine zV_if_eq d_Mo_isNeighbour_50 (by omega) (fun c50 => ?_) (fun c50 => absurd c50 (by omega))
        refine zV_iconst d_Mo_isNeighbour_90 ?_
        exact zS_zret d_Mo_isNeighbour_91 rfl ⟨Nat.zero_le _, Nat.zero_le _⟩ (Or.inl rfl) (by refine ⟨?_, rfl⟩; rw [zb_f (show ¬ nbM mem n j m9 i from fun z => by rcases z with z | ⟨z, z2⟩; (omega); first | omega | (rw [if_pos (by omega)] at z2; contradiction) | (rw [if_neg (by omega)] at z2; contradiction))])
      · refine zV_iconst d_Mo_isNeighbour_41 ?_
        refine zV_goto d_Mo_isNeighbour_42 ?_
        refine zV_istore (L' := [some (2, 80), some (0, n), some (0, j), some (0, m9), some (0, i), some (0, 1)]) d_Mo_isNeighbour_46 (by decide) rfl ?_
        refine zV_iload d_Mo_isNeighbour_48 rfl ?_
        refine zV_if_eq d_Mo_isNeighbour_50 (by omega) (fun c50 => absurd c50 (by omega)) (fun c50 => ?_)
        refine zV_iload_n d_Mo_isNeighbour_53 rfl ?_
        refine zV_iconst d_Mo_isNeighbour_54 ?_
        refine zV_irem_p d_Mo_isNeighbour_55 (by omega) (by omega) ?_
        refine zV_if_ne d_Mo_isNeighbour_56 (by omega) (fun c56 => ?_) (fun c56 => ?_)
        · refine zV_aload_n d_Mo_isNeighbour_74 rfl ?_
          refine zV_iload_n d_Mo_isNeighbour_75 rfl ?_
          refine zV_iload d_Mo_isNeighbour_76 rfl ?_
          refine zV_iload_n d_Mo_isNeighbour_78 rfl ?_
          refine zV_iload_n d_Mo_isNeighbour_79 rfl ?_
          refine zS_invvE (mt' := m_Mo_isBeside) (avs := [(0, m9), (0, i), (0, n), (0, j)]) (st := []) d_Mo_isNeighbour_80 l_Mo_236 k_Mo_isBeside rfl rfl rfl rfl rfl (s_Mo_isBeside mem m9 i n j hL (by omega) (by omega) (by omega) (by omega)) ?_
          show zS zT m_Mo_isNeighbour (0, 0) 83 [some (2, 80), some (0, n), some (0, j), some (0, m9), some (0, i), some (0, 1)] [(0, (zb (bsM mem m9 i n j)))] mem _
          refine zV_ifb_eq d_Mo_isNeighbour_83 (fun c83 => ?_) (fun c83 => ?_)
          · refine zV_iconst d_Mo_isNeighbour_90 ?_
            exact zS_zret d_Mo_isNeighbour_91 rfl ⟨Nat.zero_le _, Nat.zero_le _⟩ (Or.inl rfl) (by refine ⟨?_, rfl⟩; rw [zb_f (show ¬ nbM mem n j m9 i from fun z => by rcases z with z | ⟨z, z2⟩; (omega); first | omega | (rw [if_pos (by omega)] at z2; contradiction) | (rw [if_neg (by omega)] at z2; contradiction))])
          · refine zV_iconst d_Mo_isNeighbour_86 ?_
            refine zV_goto d_Mo_isNeighbour_87 ?_
            exact zS_zret d_Mo_isNeighbour_91 rfl ⟨Nat.zero_le _, Nat.zero_le _⟩ (Or.inr rfl) (by refine ⟨?_, rfl⟩; first | rw [zb_t (show nbM mem n j m9 i from Or.inr ⟨by omega, by rw [if_pos (by omega)]; assumption⟩)] | rw [zb_t (show nbM mem n j m9 i from Or.inr ⟨by omega, by rw [if_neg (by omega)]; assumption⟩)])
        · refine zV_aload_n d_Mo_isNeighbour_59 rfl ?_
          refine zV_iload_n d_Mo_isNeighbour_60 rfl ?_
          refine zV_iload_n d_Mo_isNeighbour_61 rfl ?_
          refine zV_iload_n d_Mo_isNeighbour_62 rfl ?_
          refine zV_iload d_Mo_isNeighbour_63 rfl ?_
          refine zS_invvE (mt' := m_Mo_isBeside) (avs := [(0, n), (0, j), (0, m9), (0, i)]) (st := []) d_Mo_isNeighbour_65 l_Mo_236 k_Mo_isBeside rfl rfl rfl rfl rfl (s_Mo_isBeside mem n j m9 i hL (by omega) (by omega) (by omega) (by omega)) ?_
          show zS zT m_Mo_isNeighbour (0, 0) 68 [some (2, 80), some (0, n), some (0, j), some (0, m9), some (0, i), some (0, 1)] [(0, (zb (bsM mem n j m9 i)))] mem _
          refine zV_ifb_eq d_Mo_isNeighbour_68 (fun c68 => ?_) (fun c68 => ?_)
          · refine zV_iconst d_Mo_isNeighbour_90 ?_
            exact zS_zret d_Mo_isNeighbour_91 rfl ⟨Nat.zero_le _, Nat.zero_le _⟩ (Or.inl rfl) (by refine ⟨?_, rfl⟩; rw [zb_f (show ¬ nbM mem n j m9 i from fun z => by rcases z with z | ⟨z, z2⟩; (omega); first | omega | (rw [if_pos (by omega)] at z2; contradiction) | (rw [if_neg (by omega)] at z2; contradiction))])
          · refine zV_goto d_Mo_isNeighbour_71 ?_
            refine zV_iconst d_Mo_isNeighbour_86 ?_
            refine zV_goto d_Mo_isNeighbour_87 ?_
            exact zS_zret d_Mo_isNeighbour_91 rfl ⟨Nat.zero_le _, Nat.zero_le _⟩ (Or.inr rfl) (by refine ⟨?_, rfl⟩; first | rw [zb_t (show nbM mem n j m9 i from Or.inr ⟨by omega, by rw [if_pos (by omega)]; assumption⟩)] | rw [zb_t (show nbM mem n j m9 i from Or.inr ⟨by omega, by rw [if_neg (by omega)]; assumption⟩)])
  · refine zV_iload_n d_Mo_isNeighbour_5 rfl ?_
    refine zV_iload d_Mo_isNeighbour_6 rfl ?_
    refine zV_isub d_Mo_isNeighbour_8 ?_
    refine zV_iconst d_Mo_isNeighbour_9 ?_
    refine zV_icmp_eq d_Mo_isNeighbour_10 (by omega) (by omega) (fun c10 => ?_) (fun c10 => ?_)
    · refine zV_iconst d_Mo_isNeighbour_21 ?_
      refine zV_goto d_Mo_isNeighbour_22 ?_
      exact zS_zret d_Mo_isNeighbour_26 rfl ⟨Nat.zero_le _, Nat.zero_le _⟩ (Or.inr rfl) (by refine ⟨?_, rfl⟩; first | rw [zb_t (show nbM mem n j m9 i from Or.inl ⟨by omega, by omega⟩)] | rw [zb_f (show ¬ nbM mem n j m9 i from fun z => by rcases z with z | z <;> omega)])
    · refine zV_iload d_Mo_isNeighbour_13 rfl ?_
      refine zV_iload_n d_Mo_isNeighbour_15 rfl ?_
      refine zV_isub d_Mo_isNeighbour_16 ?_
      refine zV_iconst d_Mo_isNeighbour_17 ?_
      refine zV_icmp_ne d_Mo_isNeighbour_18 (by omega) (by omega) (fun c18 => ?_) (fun c18 => ?_)
      · refine zV_iconst d_Mo_isNeighbour_25 ?_
        exact zS_zret d_Mo_isNeighbour_26 rfl ⟨Nat.zero_le _, Nat.zero_le _⟩ (Or.inl rfl) (by refine ⟨?_, rfl⟩; first | rw [zb_t (show nbM mem n j m9 i from Or.inl ⟨by omega, by omega⟩)] | rw [zb_f (show ¬ nbM mem n j m9 i from fun z => by rcases z with z | z <;> omega)])
      · refine zV_iconst d_Mo_isNeighbour_21 ?_
        refine zV_goto d_Mo_isNeighbour_22 ?_
        exact zS_zret d_Mo_isNeighbour_26 rfl ⟨Nat.zero_le _, Nat.zero_le _⟩ (Or.inr rfl) (by refine ⟨?_, rfl⟩; first | rw [zb_t (show nbM mem n j m9 i from Or.inl ⟨by omega, by omega⟩)] | rw [zb_f (show ¬ nbM mem n j m9 i from fun z => by rcases z with z | z <;> omega)])
noncomputable def nbI (mem : zMem) (n j m : Int) : Int := zsm (fun i => zb (nbM mem n j m i)) (2 * mem 91 m + 1 - 0).toNat 0
def nbH (mem : zMem) (n : Int) : Int := if n + 2 ≤ mem 80 15 then n + 2 else mem 80 15
noncomputable def nbS (mem : zMem) (n j : Int) : Int := zsm (nbI mem n j) (nbH mem n - (if 0 < n then n - 1 else 0)).toNat (if 0 < n then n - 1 else 0)
theorem s_Mo_neighbours_47 (mem : zMem) (n j : Int) (hL : okL mem) (hn : 0 ≤ n ∧ n < mem 80 15) (hj : 0 ≤ j ∧ j < 100) (c : Int) (hc : 0 ≤ c ∧ c < mem 80 15) (q : Int) (Q9 : zQ2) (kk : zS zT m_Mo_neighbours (0, 0) 85 [some (2, 80), some (0, n), some (0, j), some (0, q), some (0, c), none] [] mem (zQs Q9)) : ∀ (i : Int) (acc : Int), (0 ≤ i ∧ i ≤ 2 * mem 91 c + 1) → (acc + zsm (fun i => zb (nbM mem n j c i)) (2 * mem 91 c + 1 - i).toNat i = q) → zS zT m_Mo_neighbours (0, 0) 47 [some (2, 80), some (0, n), some (0, j), some (0, acc), some (0, c), some (0, i)] [] mem (zQs (Q9)) := by
  intro i acc
  obtain ⟨k9, hk9⟩ : ∃ kq : Nat, (2 * mem 91 c + 1 - i).toNat = kq := ⟨_, rfl⟩
  induction k9 using Nat.strongRecOn generalizing i acc with
  | _ k9 ih =>
    intro i0 i1
    have b1 := hL.2.2.1.1
    have s1 := hL.2.2.2.1 c hc.1 hc.2
    refine zV_iload d_Mo_neighbours_47 rfl ?_
    refine zV_aload_n d_Mo_neighbours_49 rfl ?_
    refine zV_iload d_Mo_neighbours_50 rfl ?_
    refine zS_invvE (mt' := m_Mo_cellsIn) (avs := [(0, c)]) (st := [(0, i)]) d_Mo_neighbours_52 l_Mo_210 k_Mo_cellsIn rfl rfl rfl rfl rfl (s_Mo_cellsIn mem c (by omega)) ?_
    show zS zT m_Mo_neighbours (0, 0) 55 [some (2, 80), some (0, n), some (0, j), some (0, acc), some (0, c), some (0, i)] [(0, (2 * mem 91 c + 1)), (0, i)] mem _
    refine zV_icmp_ge d_Mo_neighbours_55 (by omega) (by omega) (fun c55 => ?_) (fun c55 => ?_)
    · refine zV_forget (L' := [some (2, 80), some (0, n), some (0, j), some (0, acc), some (0, c), none]) (by simp [zle]) ?_
      rw [zsm_e (n := 2 * mem 91 c + 1) (by omega), Int.add_zero] at i1
      rw [i1]
      exact kk
    · refine zV_iload_n d_Mo_neighbours_58 rfl ?_
      refine zV_aload_n d_Mo_neighbours_59 rfl ?_
      refine zV_iload_n d_Mo_neighbours_60 rfl ?_
      refine zV_iload_n d_Mo_neighbours_61 rfl ?_
      refine zV_iload d_Mo_neighbours_62 rfl ?_
      refine zV_iload d_Mo_neighbours_64 rfl ?_
      refine zS_invvE (mt' := m_Mo_isNeighbour) (avs := [(0, n), (0, j), (0, c), (0, i)]) (st := [(0, acc)]) d_Mo_neighbours_66 l_Mo_240 k_Mo_isNeighbour rfl rfl rfl rfl rfl (s_Mo_isNeighbour mem n j c i hL (by omega) (by omega) (by omega) (by omega)) ?_
      show zS zT m_Mo_neighbours (0, 0) 69 [some (2, 80), some (0, n), some (0, j), some (0, acc), some (0, c), some (0, i)] [(0, (zb (nbM mem n j c i))), (0, acc)] mem _
      refine zV_ifb_eq d_Mo_neighbours_69 (fun c69 => ?_) (fun c69 => ?_)
      · refine zV_iconst d_Mo_neighbours_76 ?_
        refine zV_iadd d_Mo_neighbours_77 ?_
        refine zV_istore_n (L' := [some (2, 80), some (0, n), some (0, j), some (0, (acc + 0)), some (0, c), some (0, i)]) d_Mo_neighbours_78 (by decide) rfl ?_
        refine zV_iinc (L' := [some (2, 80), some (0, n), some (0, j), some (0, (acc + 0)), some (0, c), some (0, (i + 1))]) d_Mo_neighbours_79 (by decide) rfl rfl ?_
        refine zV_goto d_Mo_neighbours_82 ?_
        refine ih _ (by omega) (i + 1) _ rfl (by omega) ?_
        rw [← i1, zsm_s (n := 2 * mem 91 c + 1) (i := i) (by omega)]
        first | rw [zb_t (show nbM mem n j c i by assumption)] | rw [zb_f (show ¬ nbM mem n j c i by assumption)]
        omega
      · refine zV_iconst d_Mo_neighbours_72 ?_
        refine zV_goto d_Mo_neighbours_73 ?_
        refine zV_iadd d_Mo_neighbours_77 ?_
        refine zV_istore_n (L' := [some (2, 80), some (0, n), some (0, j), some (0, (acc + 1)), some (0, c), some (0, i)]) d_Mo_neighbours_78 (by decide) rfl ?_
        refine zV_iinc (L' := [some (2, 80), some (0, n), some (0, j), some (0, (acc + 1)), some (0, c), some (0, (i + 1))]) d_Mo_neighbours_79 (by decide) rfl rfl ?_
        refine zV_goto d_Mo_neighbours_82 ?_
        refine ih _ (by omega) (i + 1) _ rfl (by omega) ?_
        rw [← i1, zsm_s (n := 2 * mem 91 c + 1) (i := i) (by omega)]
        first | rw [zb_t (show nbM mem n j c i by assumption)] | rw [zb_f (show ¬ nbM mem n j c i by assumption)]
        omega
theorem s_Mo_neighbours_85 (mem : zMem) (n j acc c : Int) (hc : 0 ≤ c ∧ c < 40) (Q9 : zQ2) (kk : zS zT m_Mo_neighbours (0, 0) 27 [some (2, 80), some (0, n), some (0, j), some (0, acc), some (0, (c + 1)), none] [] mem (zQs Q9)) : zS zT m_Mo_neighbours (0, 0) 85 [some (2, 80), some (0, n), some (0, j), some (0, acc), some (0, c), none] [] mem (zQs Q9) := by
  refine zV_iinc (L' := [some (2, 80), some (0, n), some (0, j), some (0, acc), some (0, (c + 1)), none]) d_Mo_neighbours_85 (by decide) rfl rfl ?_
  refine zV_goto d_Mo_neighbours_88 ?_
  exact kk
theorem s_Mo_neighbours_27 (mem : zMem) (n j : Int) (hL : okL mem) (hn : 0 ≤ n ∧ n < mem 80 15) (hj : 0 ≤ j ∧ j < 100) (q : Int) : ∀ (c : Int) (acc : Int), (0 ≤ c ∧ c ≤ nbH mem n) → (acc + zsm (nbI mem n j) (nbH mem n - c).toNat c = q) → zS zT m_Mo_neighbours (0, 0) 27 [some (2, 80), some (0, n), some (0, j), some (0, acc), some (0, c), none] [] mem (zQs (fun r m => r = some (0, q) ∧ m = mem)) := by
  intro c acc
  obtain ⟨k9, hk9⟩ : ∃ kq : Nat, (nbH mem n - c).toNat = kq := ⟨_, rfl⟩
  induction k9 using Nat.strongRecOn generalizing c acc with
  | _ k9 ih =>
    intro i0 i1
    have b1 := hL.2.2.1.1
    have hh : (n + 2 ≤ mem 80 15 ∧ nbH mem n = n + 2) ∨ (mem 80 15 < n + 2 ∧ nbH mem n = mem 80 15) := by unfold nbH; split <;> omega
    refine zV_iload d_Mo_neighbours_27 rfl ?_
    refine zV_aload_n d_Mo_neighbours_29 rfl ?_
    refine zS_get d_Mo_neighbours_30 f_Mo_184 rfl rfl ?_
    refine zV_icmp_ge d_Mo_neighbours_33 (by omega) (by omega) (fun c33 => ?_) (fun c33 => ?_)
    · refine zV_iload_n d_Mo_neighbours_91 rfl ?_
      exact zS_iret d_Mo_neighbours_92 rfl ⟨Nat.zero_le _, Nat.zero_le _⟩ ⟨by rw [← i1, zsm_e (n := nbH mem n) (by omega), Int.add_zero], rfl⟩
    · refine zV_iload d_Mo_neighbours_36 rfl ?_
      refine zV_iload_n d_Mo_neighbours_38 rfl ?_
      refine zV_iconst d_Mo_neighbours_39 ?_
      refine zV_iadd d_Mo_neighbours_40 ?_
      refine zV_icmp_gt d_Mo_neighbours_41 (by omega) (by omega) (fun c41 => ?_) (fun c41 => ?_)
      · refine zV_iload_n d_Mo_neighbours_91 rfl ?_
        exact zS_iret d_Mo_neighbours_92 rfl ⟨Nat.zero_le _, Nat.zero_le _⟩ ⟨by rw [← i1, zsm_e (n := nbH mem n) (by omega), Int.add_zero], rfl⟩
      · refine zV_iconst d_Mo_neighbours_44 ?_
        refine zV_istore (L' := [some (2, 80), some (0, n), some (0, j), some (0, acc), some (0, c), some (0, 0)]) d_Mo_neighbours_45 (by decide) rfl ?_
        refine s_Mo_neighbours_47 mem n j hL hn hj c ⟨i0.1, by omega⟩ (acc + nbI mem n j c) _ ?_ 0 acc (by have := hL.2.2.2.1 c i0.1 (by omega); omega) rfl
        refine s_Mo_neighbours_85 mem n j _ c (by omega) _ (ih _ (by omega) (c + 1) _ rfl (by omega) ?_)
        rw [← i1, zsm_s (n := nbH mem n) (i := c) (by omega)]
        omega
theorem s_Mo_neighbours (mem : zMem) (n j : Int) (hn : I32 n) (hj : I32 j) (hK : moK mem) (hO : FRS mem) : zF m_Mo_neighbours [(2, 80), (0, n), (0, j)] mem (fun r m => FZ mem m ∧ r = some (0, if (0 ≤ n ∧ n < nsA mem) ∧ 0 ≤ j ∧ j ≤ 2 * m 91 n then nbS m n j else -101)) := by
  refine zF_of (by decide) (Nat.le_of_ble_eq_true rfl) ?_
  show zS zT m_Mo_neighbours (0, 0) 0 [some (2, 80), some (0, n), some (0, j), none, none, none] [] mem _
  refine zV_aload_n d_Mo_neighbours_0 rfl ?_
  refine zV_iload_n d_Mo_neighbours_1 rfl ?_
  refine zV_iload_n d_Mo_neighbours_2 rfl ?_
  refine zS_invv (mt' := m_Mo_isCell) (avs := [(0, n), (0, j)]) (st := []) d_Mo_neighbours_3 l_Mo_223 k_Mo_isCell rfl rfl rfl rfl rfl (s_Mo_isCell mem n j hn hj hK hO) (fun r9 m1 hq9 => ?_)
  obtain ⟨hZ, rfl⟩ := hq9
  show zS zT m_Mo_neighbours (0, 0) 6 [some (2, 80), some (0, n), some (0, j), none, none, none] [(0, (zb ((0 ≤ n ∧ n < nsA mem) ∧ 0 ≤ j ∧ j ≤ 2 * m1 91 n)))] m1 _
  refine zV_ifb_ne d_Mo_neighbours_6 (fun c6 => ?_) (fun c6 => ?_)
  · refine zV_iconst d_Mo_neighbours_12 ?_
    refine zV_istore_n (L' := [some (2, 80), some (0, n), some (0, j), some (0, 0), none, none]) d_Mo_neighbours_13 (by decide) rfl ?_
    refine zV_iload_n d_Mo_neighbours_14 rfl ?_
    refine zV_if_le d_Mo_neighbours_15 (by omega) (fun c15 => ?_) (fun c15 => ?_)
    · refine zV_iconst d_Mo_neighbours_24 ?_
      refine zV_istore (L' := [some (2, 80), some (0, n), some (0, j), some (0, 0), some (0, 0), none]) d_Mo_neighbours_25 (by decide) rfl ?_
      have f9 := FZ_in (n := n) hK hZ (by omega)
      have el : (if 0 < n then n - 1 else 0) = 0 := by first | rw [if_pos (by omega)] | rw [if_neg (by omega)]
      refine zS_mono ?_ (s_Mo_neighbours_27 m1 n j f9.2.2.1 (by omega) (by omega) (nbS m1 n j) 0 0 (by unfold nbH; split <;> omega) (by rw [Int.zero_add]; unfold nbS; rw [el]))
      rintro r m ⟨rfl, rfl⟩
      exact ⟨hZ, by rw [if_pos (by omega)]⟩
    · refine zV_iload_n d_Mo_neighbours_18 rfl ?_
      refine zV_iconst d_Mo_neighbours_19 ?_
      refine zV_isub d_Mo_neighbours_20 ?_
      refine zV_goto d_Mo_neighbours_21 ?_
      refine zV_istore (L' := [some (2, 80), some (0, n), some (0, j), some (0, 0), some (0, (n - 1)), none]) d_Mo_neighbours_25 (by decide) rfl ?_
      have f9 := FZ_in (n := n) hK hZ (by omega)
      have el : (if 0 < n then n - 1 else 0) = (n - 1) := by first | rw [if_pos (by omega)] | rw [if_neg (by omega)]
      refine zS_mono ?_ (s_Mo_neighbours_27 m1 n j f9.2.2.1 (by omega) (by omega) (nbS m1 n j) (n - 1) 0 (by unfold nbH; split <;> omega) (by rw [Int.zero_add]; unfold nbS; rw [el]))
      rintro r m ⟨rfl, rfl⟩
      exact ⟨hZ, by rw [if_pos (by omega)]⟩
  · refine zV_bipush d_Mo_neighbours_9 ?_
    exact zS_iret d_Mo_neighbours_11 rfl ⟨Nat.zero_le _, Nat.zero_le _⟩ (by refine ⟨hZ, ?_⟩; rw [if_neg (by assumption)])
def dgt (l : Int) : Prop := l % 10 ≤ 6 ∧ l / 10 % 10 ≤ 6 ∧ l / 100 % 10 ≤ 6 ∧ l / 1000 % 10 ≤ 6
theorem s_Mo_isForm_l (mem : zMem) (f : Int) : ∀ (l : Int) (x : Int), ((x = 0 ∨ x = 1) ∧ (x = 1 → 0 ≤ l ∧ l ≤ 9999)) → zS zT m_Mo_isForm (0, 0) 12 [some (0, f), some (0, l), some (0, x)] [] mem (zQs (fun r m => r = some (0, zb (x = 1 ∧ dgt l)) ∧ m = mem)) := by
  intro l x
  obtain ⟨k9, hk9⟩ : ∃ kq : Nat, (if x = 0 then 0 else l.toNat + 1) = kq := ⟨_, rfl⟩
  induction k9 using Nat.strongRecOn generalizing l x with
  | _ k9 ih =>
    intro i0
    refine zV_iload_n d_Mo_isForm_12 rfl ?_
    refine zV_if_eq d_Mo_isForm_13 (by omega) (fun c13 => ?_) (fun c13 => ?_)
    · refine zV_iload_n d_Mo_isForm_43 rfl ?_
      exact zS_zret d_Mo_isForm_44 rfl ⟨Nat.zero_le _, Nat.zero_le _⟩ i0.1 (by refine ⟨?_, rfl⟩; congr 2; first | rw [zb_f (fun z => by have := z.1; omega)]; omega | (rw [zb_t ⟨by omega, by unfold dgt; omega⟩]; omega))
    · refine zV_iload_n d_Mo_isForm_16 rfl ?_
      refine zV_if_le d_Mo_isForm_17 (by omega) (fun c17 => ?_) (fun c17 => ?_)
      · refine zV_iload_n d_Mo_isForm_43 rfl ?_
        exact zS_zret d_Mo_isForm_44 rfl ⟨Nat.zero_le _, Nat.zero_le _⟩ i0.1 (by refine ⟨?_, rfl⟩; congr 2; first | rw [zb_f (fun z => by have := z.1; omega)]; omega | (rw [zb_t ⟨by omega, by unfold dgt; omega⟩]; omega))
      · refine zV_iload_n d_Mo_isForm_20 rfl ?_
        refine zV_bipush d_Mo_isForm_21 ?_
        refine zV_irem_p d_Mo_isForm_23 (by omega) (by omega) ?_
        refine zV_bipush d_Mo_isForm_24 ?_
        refine zV_icmp_ge d_Mo_isForm_26 (by omega) (by omega) (fun c26 => ?_) (fun c26 => ?_)
        · refine zV_iconst d_Mo_isForm_33 ?_
          refine zV_istore_n (L' := [some (0, f), some (0, l), some (0, 0)]) d_Mo_isForm_34 (by decide) rfl ?_
          refine zV_iload_n d_Mo_isForm_35 rfl ?_
          refine zV_bipush d_Mo_isForm_36 ?_
          refine zV_idiv_p d_Mo_isForm_38 (by omega) (by omega) ?_
          refine zV_istore_n (L' := [some (0, f), some (0, (l / 10)), some (0, 0)]) d_Mo_isForm_39 (by decide) rfl ?_
          refine zV_goto d_Mo_isForm_40 ?_
          rw [zb_iff (show (x = 1 ∧ dgt l) ↔ (0 = (1 : Int) ∧ dgt (l / 10)) by unfold dgt; omega)]
          exact ih _ (by rw [if_neg (by omega)] at hk9; (first | rw [if_pos (by decide)] | rw [if_neg (by decide)]); omega) (l / 10) _ rfl (by omega)
        · refine zV_iconst d_Mo_isForm_29 ?_
          refine zV_goto d_Mo_isForm_30 ?_
          refine zV_istore_n (L' := [some (0, f), some (0, l), some (0, 1)]) d_Mo_isForm_34 (by decide) rfl ?_
          refine zV_iload_n d_Mo_isForm_35 rfl ?_
          refine zV_bipush d_Mo_isForm_36 ?_
          refine zV_idiv_p d_Mo_isForm_38 (by omega) (by omega) ?_
          refine zV_istore_n (L' := [some (0, f), some (0, (l / 10)), some (0, 1)]) d_Mo_isForm_39 (by decide) rfl ?_
          refine zV_goto d_Mo_isForm_40 ?_
          rw [zb_iff (show (x = 1 ∧ dgt l) ↔ (1 = (1 : Int) ∧ dgt (l / 10)) by unfold dgt; omega)]
          exact ih _ (by rw [if_neg (by omega)] at hk9; (first | rw [if_pos (by decide)] | rw [if_neg (by decide)]); omega) (l / 10) _ rfl (by omega)
theorem s_Mo_isForm (mem : zMem) (f : Int) (hf : I32 f) : zF m_Mo_isForm [(0, f)] mem (fun r m => r = some (0, zb (okF f)) ∧ m = mem) := by
  refine zF_of (by decide) (Nat.le_of_ble_eq_true rfl) ?_
  show zS zT m_Mo_isForm (0, 0) 0 [some (0, f), none, none] [] mem _
  refine zV_iload_n d_Mo_isForm_0 rfl ?_
  refine zV_istore_n (L' := [some (0, f), some (0, f), none]) d_Mo_isForm_1 (by decide) rfl ?_
  refine zV_iload_n d_Mo_isForm_2 rfl ?_
  refine zV_i2l d_Mo_isForm_3 (by omega) ?_
  refine zV_lconst0 d_Mo_isForm_4 ?_
  refine zV_ldc2 (a := 6666) d_Mo_isForm_5 n_Mo_243 rfl ?_
  refine zS_invsE (mt' := m_Mo_in) (avs := [(1, f), (1, 0), (1, 6666)]) (st := []) d_Mo_isForm_8 l_Mo_80 k_Mo_in rfl rfl rfl rfl (s_Mo_in mem f 0 6666 (by omega) (by omega) (by omega)) ?_
  show zS zT m_Mo_isForm (0, 0) 11 [some (0, f), some (0, f), none] [(0, (zb (0 ≤ f ∧ f ≤ 6666)))] mem _
  refine zV_istore_n (L' := [some (0, f), some (0, f), some (0, (zb (0 ≤ f ∧ f ≤ 6666)))]) d_Mo_isForm_11 (by decide) rfl ?_
  have z9 := zb_01 (0 ≤ f ∧ f ≤ 6666)
  have y9 : zb (0 ≤ f ∧ f ≤ 6666) = 1 → 0 ≤ f ∧ f ≤ 6666 := zb_1.mp
  refine zS_mono ?_ (s_Mo_isForm_l mem f f _ ⟨z9, fun q => by have := y9 q; omega⟩)
  rintro r m ⟨rfl, rfl⟩
  refine ⟨?_, rfl⟩
  congr 2
  apply zb_iff
  rw [zb_1]
  unfold okF dgt
  omega
def dvT : Nat → Int → Int
  | 0, l => l
  | t + 1, l => dvT t (l / 10)
def fgM (f k : Int) : Int := dvT (3 - k).toNat f % 10
theorem dvT_n : ∀ (t : Nat) (l : Int), 0 ≤ l → 0 ≤ dvT t l
  | 0, l, h => h
  | t + 1, l, h => dvT_n t (l / 10) (by omega)
theorem fgM_r {f k : Int} (h : 0 ≤ f) : 0 ≤ fgM f k ∧ fgM f k ≤ 9 := by
  have := dvT_n (3 - k).toNat f h
  unfold fgM
  omega
theorem s_Mo_figureOf_l (mem : zMem) (f k : Int) : ∀ (n : Int) (l : Int), (0 ≤ n ∧ n ≤ 3) → (0 ≤ l ∧ l < 2147483648) → zS zT m_Mo_figureOf (0, 0) 4 [some (0, f), some (0, k), some (0, l), some (0, n)] [] mem (zQs (fun r m => r = some (0, fgM l n) ∧ m = mem)) := by
  intro n l
  obtain ⟨k9, hk9⟩ : ∃ kq : Nat, (3 - n).toNat = kq := ⟨_, rfl⟩
  induction k9 using Nat.strongRecOn generalizing n l with
  | _ k9 ih =>
    intro i0 i1
    refine zV_iload_n d_Mo_figureOf_4 rfl ?_
    refine zV_iconst d_Mo_figureOf_5 ?_
    refine zV_icmp_ge d_Mo_figureOf_6 (by omega) (by omega) (fun c6 => ?_) (fun c6 => ?_)
    · refine zV_iload_n d_Mo_figureOf_20 rfl ?_
      refine zV_bipush d_Mo_figureOf_21 ?_
      refine zV_irem_p d_Mo_figureOf_23 (by omega) (by omega) ?_
      exact zS_iret d_Mo_figureOf_24 rfl ⟨Nat.zero_le _, Nat.zero_le _⟩ (by refine ⟨?_, rfl⟩; unfold fgM; rw [zk_0 (show 3 ≤ n by omega)]; rfl)
    · refine zV_iload_n d_Mo_figureOf_9 rfl ?_
      refine zV_bipush d_Mo_figureOf_10 ?_
      refine zV_idiv_p d_Mo_figureOf_12 (by omega) (by omega) ?_
      refine zV_istore_n (L' := [some (0, f), some (0, k), some (0, (l / 10)), some (0, n)]) d_Mo_figureOf_13 (by decide) rfl ?_
      refine zV_iinc (L' := [some (0, f), some (0, k), some (0, (l / 10)), some (0, (n + 1))]) d_Mo_figureOf_14 (by decide) rfl rfl ?_
      refine zV_goto d_Mo_figureOf_17 ?_
      have e9 : fgM l n = fgM (l / 10) (n + 1) := by unfold fgM; rw [zk_s (show n < 3 by omega)]; rfl
      rw [e9]
      exact ih _ (by omega) (n + 1) (l / 10) rfl (by omega) (by omega)
theorem s_Mo_figureOf (mem : zMem) (f k : Int) (hf : 0 ≤ f ∧ f < 2147483648) (hk : 0 ≤ k ∧ k ≤ 3) : zF m_Mo_figureOf [(0, f), (0, k)] mem (fun r m => r = some (0, fgM f k) ∧ m = mem) := by
  refine zF_of (by decide) (Nat.le_of_ble_eq_true rfl) ?_
  show zS zT m_Mo_figureOf (0, 0) 0 [some (0, f), some (0, k), none, none] [] mem _
  refine zV_iload_n d_Mo_figureOf_0 rfl ?_
  refine zV_istore_n (L' := [some (0, f), some (0, k), some (0, f), none]) d_Mo_figureOf_1 (by decide) rfl ?_
  refine zV_iload_n d_Mo_figureOf_2 rfl ?_
  refine zV_istore_n (L' := [some (0, f), some (0, k), some (0, f), some (0, k)]) d_Mo_figureOf_3 (by decide) rfl ?_
  exact s_Mo_figureOf_l mem f k k f hk hf
def soM (g h : Int) : Prop := g = 0 ∨ ((1 ≤ g ∧ g ≤ 3) ∧ h = g - 1) ∨ (g = 4 ∧ h ≠ 1) ∨ (g = 5 ∧ h ≠ 0) ∨ ((g < 0 ∨ 5 < g) ∧ h ≠ 2)
theorem s_Mo_isSo (mem : zMem) (g h : Int) (hg : I32 g) (hh : I32 h) : zF m_Mo_isSo [(0, g), (0, h)] mem (fun r m => r = some (0, zb (soM g h)) ∧ m = mem) := by
  refine zF_of (by decide) (Nat.le_of_ble_eq_true rfl) ?_
  show zS zT m_Mo_isSo (0, 0) 0 [some (0, g), some (0, h)] [] mem _
  refine zV_iload_n d_Mo_isSo_0 rfl ?_
  by_cases c1_0 : g = 0
  · refine zV_tsIn (off := 31) (tgt := 32) d_Mo_isSo_1 (by omega) c1_0 (by decide) ?_
    refine zV_iconst d_Mo_isSo_32 ?_
    exact zS_zret d_Mo_isSo_33 rfl ⟨Nat.zero_le _, Nat.zero_le _⟩ (Or.inr rfl) (by refine ⟨?_, rfl⟩; first | rw [zb_t (by unfold soM; omega)] | rw [zb_f (by unfold soM; omega)])
  by_cases c1_1 : g = 1
  · refine zV_tsIn (off := 33) (tgt := 34) d_Mo_isSo_1 (by omega) c1_1 (by decide) ?_
    refine zV_iload_n d_Mo_isSo_34 rfl ?_
    refine zV_iload_n d_Mo_isSo_35 rfl ?_
    refine zV_iconst d_Mo_isSo_36 ?_
    refine zV_isub d_Mo_isSo_37 ?_
    refine zV_icmp_ne d_Mo_isSo_38 (by omega) (by omega) (fun c38 => ?_) (fun c38 => ?_)
    · refine zV_iconst d_Mo_isSo_45 ?_
      exact zS_zret d_Mo_isSo_46 rfl ⟨Nat.zero_le _, Nat.zero_le _⟩ (Or.inl rfl) (by refine ⟨?_, rfl⟩; first | rw [zb_t (by unfold soM; omega)] | rw [zb_f (by unfold soM; omega)])
    · refine zV_iconst d_Mo_isSo_41 ?_
      refine zV_goto d_Mo_isSo_42 ?_
      exact zS_zret d_Mo_isSo_46 rfl ⟨Nat.zero_le _, Nat.zero_le _⟩ (Or.inr rfl) (by refine ⟨?_, rfl⟩; first | rw [zb_t (by unfold soM; omega)] | rw [zb_f (by unfold soM; omega)])
  by_cases c1_2 : g = 2
  · refine zV_tsIn (off := 33) (tgt := 34) d_Mo_isSo_1 (by omega) c1_2 (by decide) ?_
    refine zV_iload_n d_Mo_isSo_34 rfl ?_
    refine zV_iload_n d_Mo_isSo_35 rfl ?_
    refine zV_iconst d_Mo_isSo_36 ?_
    refine zV_isub d_Mo_isSo_37 ?_
    refine zV_icmp_ne d_Mo_isSo_38 (by omega) (by omega) (fun c38 => ?_) (fun c38 => ?_)
    · refine zV_iconst d_Mo_isSo_45 ?_
      exact zS_zret d_Mo_isSo_46 rfl ⟨Nat.zero_le _, Nat.zero_le _⟩ (Or.inl rfl) (by refine ⟨?_, rfl⟩; first | rw [zb_t (by unfold soM; omega)] | rw [zb_f (by unfold soM; omega)])
    · refine zV_iconst d_Mo_isSo_41 ?_
      refine zV_goto d_Mo_isSo_42 ?_
      exact zS_zret d_Mo_isSo_46 rfl ⟨Nat.zero_le _, Nat.zero_le _⟩ (Or.inr rfl) (by refine ⟨?_, rfl⟩; first | rw [zb_t (by unfold soM; omega)] | rw [zb_f (by unfold soM; omega)])
  by_cases c1_3 : g = 3
  · refine zV_tsIn (off := 33) (tgt := 34) d_Mo_isSo_1 (by omega) c1_3 (by decide) ?_
    refine zV_iload_n d_Mo_isSo_34 rfl ?_
    refine zV_iload_n d_Mo_isSo_35 rfl ?_
    refine zV_iconst d_Mo_isSo_36 ?_
    refine zV_isub d_Mo_isSo_37 ?_
    refine zV_icmp_ne d_Mo_isSo_38 (by omega) (by omega) (fun c38 => ?_) (fun c38 => ?_)
    · refine zV_iconst d_Mo_isSo_45 ?_
      exact zS_zret d_Mo_isSo_46 rfl ⟨Nat.zero_le _, Nat.zero_le _⟩ (Or.inl rfl) (by refine ⟨?_, rfl⟩; first | rw [zb_t (by unfold soM; omega)] | rw [zb_f (by unfold soM; omega)])
    · refine zV_iconst d_Mo_isSo_41 ?_
      refine zV_goto d_Mo_isSo_42 ?_
      exact zS_zret d_Mo_isSo_46 rfl ⟨Nat.zero_le _, Nat.zero_le _⟩ (Or.inr rfl) (by refine ⟨?_, rfl⟩; first | rw [zb_t (by unfold soM; omega)] | rw [zb_f (by unfold soM; omega)])
  refine zV_tsOut (tgt := 47) d_Mo_isSo_1 (by omega) (by omega) (by decide) ?_
  refine zV_iload_n d_Mo_isSo_47 rfl ?_
  refine zV_iload_n d_Mo_isSo_48 rfl ?_
  refine zV_iconst d_Mo_isSo_49 ?_
  refine zV_icmp_ne d_Mo_isSo_50 (by omega) (by omega) (fun c50 => ?_) (fun c50 => ?_)
  · refine zV_iload_n d_Mo_isSo_57 rfl ?_
    refine zV_iconst d_Mo_isSo_58 ?_
    refine zV_icmp_ne d_Mo_isSo_59 (by omega) (by omega) (fun c59 => ?_) (fun c59 => ?_)
    · refine zV_iconst d_Mo_isSo_66 ?_
      refine zV_icmp_eq d_Mo_isSo_67 (by omega) (by omega) (fun c67 => ?_) (fun c67 => ?_)
      · refine zV_iconst d_Mo_isSo_74 ?_
        exact zS_zret d_Mo_isSo_75 rfl ⟨Nat.zero_le _, Nat.zero_le _⟩ (Or.inl rfl) (by refine ⟨?_, rfl⟩; first | rw [zb_t (by unfold soM; omega)] | rw [zb_f (by unfold soM; omega)])
      · refine zV_iconst d_Mo_isSo_70 ?_
        refine zV_goto d_Mo_isSo_71 ?_
        exact zS_zret d_Mo_isSo_75 rfl ⟨Nat.zero_le _, Nat.zero_le _⟩ (Or.inr rfl) (by refine ⟨?_, rfl⟩; first | rw [zb_t (by unfold soM; omega)] | rw [zb_f (by unfold soM; omega)])
    · refine zV_iconst d_Mo_isSo_62 ?_
      refine zV_goto d_Mo_isSo_63 ?_
      refine zV_icmp_eq d_Mo_isSo_67 (by omega) (by omega) (fun c67 => ?_) (fun c67 => ?_)
      · refine zV_iconst d_Mo_isSo_74 ?_
        exact zS_zret d_Mo_isSo_75 rfl ⟨Nat.zero_le _, Nat.zero_le _⟩ (Or.inl rfl) (by refine ⟨?_, rfl⟩; first | rw [zb_t (by unfold soM; omega)] | rw [zb_f (by unfold soM; omega)])
      · refine zV_iconst d_Mo_isSo_70 ?_
        refine zV_goto d_Mo_isSo_71 ?_
        exact zS_zret d_Mo_isSo_75 rfl ⟨Nat.zero_le _, Nat.zero_le _⟩ (Or.inr rfl) (by refine ⟨?_, rfl⟩; first | rw [zb_t (by unfold soM; omega)] | rw [zb_f (by unfold soM; omega)])
  · refine zV_iconst d_Mo_isSo_53 ?_
    refine zV_goto d_Mo_isSo_54 ?_
    refine zV_icmp_eq d_Mo_isSo_67 (by omega) (by omega) (fun c67 => ?_) (fun c67 => ?_)
    · refine zV_iconst d_Mo_isSo_74 ?_
      exact zS_zret d_Mo_isSo_75 rfl ⟨Nat.zero_le _, Nat.zero_le _⟩ (Or.inl rfl) (by refine ⟨?_, rfl⟩; first | rw [zb_t (by unfold soM; omega)] | rw [zb_f (by unfold soM; omega)])
    · refine zV_iconst d_Mo_isSo_70 ?_
      refine zV_goto d_Mo_isSo_71 ?_
      exact zS_zret d_Mo_isSo_75 rfl ⟨Nat.zero_le _, Nat.zero_le _⟩ (Or.inr rfl) (by refine ⟨?_, rfl⟩; first | rw [zb_t (by unfold soM; omega)] | rw [zb_f (by unfold soM; omega)])
