/-! the reference: images, counts -/
def cpA (mem : zMem) (a b n : Int) : zMem := fun x j => if x = b ∧ 0 ≤ j ∧ j < n then mem a j else mem x j
theorem cpA_s {mem : zMem} {a b i : Int} (hab : a ≠ b) (hi : 0 ≤ i) : zup (cpA mem a b i) b i (cpA mem a b i a i) = cpA mem a b (i + 1) := by
  have e : cpA mem a b i a i = mem a i := by unfold cpA; rw [if_neg (fun z => hab z.1)]
  rw [e]
  funext x j
  unfold zup cpA
  by_cases h1 : x = b ∧ j = i
  · rw [if_pos h1, if_pos (by omega), h1.2]
  · rw [if_neg h1]
    by_cases h2 : x = b ∧ 0 ≤ j ∧ j < i
    · rw [if_pos h2, if_pos (by omega)]
    · rw [if_neg h2, if_neg (by omega)]
theorem cpA_0 (mem : zMem) (a b : Int) : cpA mem a b 0 = mem := by
  funext x j
  unfold cpA
  rw [if_neg (by omega)]
theorem cpA_o {mem : zMem} {a b n x : Int} (h : x ≠ b) : cpA mem a b n x = mem x := by
  funext j
  unfold cpA
  rw [if_neg (fun z => h z.1)]
theorem cpA_v {mem : zMem} {a b n j : Int} (h : 0 ≤ j ∧ j < n) : cpA mem a b n b j = mem a j := by
  unfold cpA
  rw [if_pos ⟨rfl, h.1, h.2⟩]
theorem s_Mo_copy4_l (mem : zMem) (a b : Int) (ha : zkd zSH a = (12, 4)) (hb : zkd zSH b = (12, 4)) (hab : a ≠ b) : ∀ (i : Int), (0 ≤ i ∧ i ≤ 4) → zS zT m_Mo_copy (0, 0) 2 [some (2, a), some (2, b), some (0, i)] [] (cpA mem a b i) (zQs (fun r m => r = none ∧ m = cpA mem a b 4)) := by
  intro i
  obtain ⟨k9, hk9⟩ : ∃ kq : Nat, (4 - i).toNat = kq := ⟨_, rfl⟩
  induction k9 using Nat.strongRecOn generalizing i with
  | _ k9 ih =>
    intro i0
    refine zV_iload_n d_Mo_copy_2 rfl ?_
    refine zV_aload_n d_Mo_copy_3 rfl ?_
    refine zV_alen (kd := 0) d_Mo_copy_4 ha ?_
    show zS zT m_Mo_copy (0, 0) 5 [some (2, a), some (2, b), some (0, i)] [(0, 4), (0, i)] (cpA mem a b i) _
    refine zV_icmp_ge d_Mo_copy_5 (by omega) (by omega) (fun c5 => ?_) (fun c5 => ?_)
    · exact zS_vret d_Mo_copy_20 rfl ⟨Nat.zero_le _, Nat.zero_le _⟩ ⟨rfl, by rw [show (4 : Int) = i by omega]⟩
    · refine zV_aload_n d_Mo_copy_8 rfl ?_
      refine zV_iload_n d_Mo_copy_9 rfl ?_
      refine zV_aload_n d_Mo_copy_10 rfl ?_
      refine zV_iload_n d_Mo_copy_11 rfl ?_
      refine zS_iald d_Mo_copy_12 ha rfl ⟨by omega, by omega⟩ ?_
      refine zS_iast d_Mo_copy_13 hb rfl ⟨by omega, by omega⟩ ?_
      refine zV_iinc (L' := [some (2, a), some (2, b), some (0, (i + 1))]) d_Mo_copy_14 (by decide) rfl rfl ?_
      refine zV_goto d_Mo_copy_17 ?_
      rw [cpA_s hab i0.1]
      exact ih _ (by omega) (i + 1) rfl (by omega)
theorem s_Mo_copy4 (mem : zMem) (a b : Int) (ha : zkd zSH a = (12, 4)) (hb : zkd zSH b = (12, 4)) (hab : a ≠ b) : zF m_Mo_copy [(2, a), (2, b)] mem (fun r m => r = none ∧ m = cpA mem a b 4) := by
  refine zF_of (by decide) (Nat.le_of_ble_eq_true rfl) ?_
  show zS zT m_Mo_copy (0, 0) 0 [some (2, a), some (2, b), none] [] mem _
  refine zV_iconst d_Mo_copy_0 ?_
  refine zV_istore_n (L' := [some (2, a), some (2, b), some (0, 0)]) d_Mo_copy_1 (by decide) rfl ?_
  have z := s_Mo_copy4_l mem a b ha hb hab 0 (by omega)
  rw [cpA_0] at z
  exact z
theorem s_Mo_copy24_l (mem : zMem) (a b : Int) (ha : zkd zSH a = (12, 24)) (hb : zkd zSH b = (12, 24)) (hab : a ≠ b) : ∀ (i : Int), (0 ≤ i ∧ i ≤ 24) → zS zT m_Mo_copy (0, 0) 2 [some (2, a), some (2, b), some (0, i)] [] (cpA mem a b i) (zQs (fun r m => r = none ∧ m = cpA mem a b 24)) := by
  intro i
  obtain ⟨k9, hk9⟩ : ∃ kq : Nat, (24 - i).toNat = kq := ⟨_, rfl⟩
  induction k9 using Nat.strongRecOn generalizing i with
  | _ k9 ih =>
    intro i0
    refine zV_iload_n d_Mo_copy_2 rfl ?_
    refine zV_aload_n d_Mo_copy_3 rfl ?_
    refine zV_alen (kd := 0) d_Mo_copy_4 ha ?_
    show zS zT m_Mo_copy (0, 0) 5 [some (2, a), some (2, b), some (0, i)] [(0, 24), (0, i)] (cpA mem a b i) _
    refine zV_icmp_ge d_Mo_copy_5 (by omega) (by omega) (fun c5 => ?_) (fun c5 => ?_)
    · exact zS_vret d_Mo_copy_20 rfl ⟨Nat.zero_le _, Nat.zero_le _⟩ ⟨rfl, by rw [show (24 : Int) = i by omega]⟩
    · refine zV_aload_n d_Mo_copy_8 rfl ?_
      refine zV_iload_n d_Mo_copy_9 rfl ?_
      refine zV_aload_n d_Mo_copy_10 rfl ?_
      refine zV_iload_n d_Mo_copy_11 rfl ?_
      refine zS_iald d_Mo_copy_12 ha rfl ⟨by omega, by omega⟩ ?_
      refine zS_iast d_Mo_copy_13 hb rfl ⟨by omega, by omega⟩ ?_
      refine zV_iinc (L' := [some (2, a), some (2, b), some (0, (i + 1))]) d_Mo_copy_14 (by decide) rfl rfl ?_
      refine zV_goto d_Mo_copy_17 ?_
      rw [cpA_s hab i0.1]
      exact ih _ (by omega) (i + 1) rfl (by omega)
theorem s_Mo_copy24 (mem : zMem) (a b : Int) (ha : zkd zSH a = (12, 24)) (hb : zkd zSH b = (12, 24)) (hab : a ≠ b) : zF m_Mo_copy [(2, a), (2, b)] mem (fun r m => r = none ∧ m = cpA mem a b 24) := by
  refine zF_of (by decide) (Nat.le_of_ble_eq_true rfl) ?_
  show zS zT m_Mo_copy (0, 0) 0 [some (2, a), some (2, b), none] [] mem _
  refine zV_iconst d_Mo_copy_0 ?_
  refine zV_istore_n (L' := [some (2, a), some (2, b), some (0, 0)]) d_Mo_copy_1 (by decide) rfl ?_
  have z := s_Mo_copy24_l mem a b ha hb hab 0 (by omega)
  rw [cpA_0] at z
  exact z
def imC (mem : zMem) : zMem := cpA (cpA (cpA (cpA (cpA mem 82 95 4) 83 96 4) 84 97 4) 85 98 4) 94 99 24
def reC (mem : zMem) : zMem := cpA (cpA (cpA (cpA (cpA mem 95 82 4) 96 83 4) 97 84 4) 98 85 4) 99 94 24
def imM (mem : zMem) : zMem := zup (zup (zup (imC mem) 80 26 (mem 80 2)) 80 27 (mem 80 22)) 80 25 (mem 80 3)
def reM (mem : zMem) : zMem := zup (zup (zup (reC mem) 80 2 (mem 80 26)) 80 22 (mem 80 27)) 80 9 1
theorem imC_80 (mem : zMem) : imC mem 80 = mem 80 := by
  unfold imC
  rw [cpA_o (by decide), cpA_o (by decide), cpA_o (by decide), cpA_o (by decide), cpA_o (by decide)]
theorem reC_80 (mem : zMem) : reC mem 80 = mem 80 := by
  unfold reC
  rw [cpA_o (by decide), cpA_o (by decide), cpA_o (by decide), cpA_o (by decide), cpA_o (by decide)]
theorem s_Mo_image (mem : zMem) (hK : moK mem) : zF m_Mo_image [(2, 80)] mem (fun r m => (mem 80 2 = 0 ∧ r = some (0, -103) ∧ m = mem) ∨ (mem 80 2 ≠ 0 ∧ r = some (0, mem 80 2) ∧ m = imM mem)) := by
  have k1 := hK.1
  refine zF_of (by decide) (Nat.le_of_ble_eq_true rfl) ?_
  show zS zT m_Mo_image (0, 0) 0 [some (2, 80)] [] mem _
  refine zV_aload_n d_Mo_image_0 rfl ?_
  refine zS_invvE (mt' := m_Mo_lacks) (avs := []) (st := []) d_Mo_image_1 l_Mo_213 k_Mo_lacks rfl rfl rfl rfl rfl (s_Mo_lacks mem (by omega)) ?_
  show zS zT m_Mo_image (0, 0) 4 [some (2, 80)] [(0, (zb (mem 80 2 = 0)))] mem _
  refine zV_ifb_eq d_Mo_image_4 (fun c4 => ?_) (fun c4 => ?_)
  · refine zV_aload_n d_Mo_image_10 rfl ?_
    refine zS_getr (r := 82) d_Mo_image_11 f_Mo_13 rfl rfl rfl ?_
    refine zV_aload_n d_Mo_image_14 rfl ?_
    refine zS_getr (r := 95) d_Mo_image_15 f_Mo_53 rfl rfl rfl ?_
    refine zS_invsE (mt' := m_Mo_copy) (avs := [(2, 82), (2, 95)]) (st := []) d_Mo_image_18 l_Mo_322 k_Mo_copy rfl rfl rfl rfl (s_Mo_copy4 mem 82 95 rfl rfl (by decide)) ?_
    show zS zT m_Mo_image (0, 0) 21 [some (2, 80)] [] (cpA mem 82 95 4) _
    refine zV_aload_n d_Mo_image_21 rfl ?_
    refine zS_getr (r := 83) d_Mo_image_22 f_Mo_16 rfl rfl rfl ?_
    refine zV_aload_n d_Mo_image_25 rfl ?_
    refine zS_getr (r := 96) d_Mo_image_26 f_Mo_56 rfl rfl rfl ?_
    refine zS_invsE (mt' := m_Mo_copy) (avs := [(2, 83), (2, 96)]) (st := []) d_Mo_image_29 l_Mo_322 k_Mo_copy rfl rfl rfl rfl (s_Mo_copy4 (cpA mem 82 95 4) 83 96 rfl rfl (by decide)) ?_
    show zS zT m_Mo_image (0, 0) 32 [some (2, 80)] [] (cpA (cpA mem 82 95 4) 83 96 4) _
    refine zV_aload_n d_Mo_image_32 rfl ?_
    refine zS_getr (r := 84) d_Mo_image_33 f_Mo_19 rfl rfl rfl ?_
    refine zV_aload_n d_Mo_image_36 rfl ?_
    refine zS_getr (r := 97) d_Mo_image_37 f_Mo_59 rfl rfl rfl ?_
    refine zS_invsE (mt' := m_Mo_copy) (avs := [(2, 84), (2, 97)]) (st := []) d_Mo_image_40 l_Mo_322 k_Mo_copy rfl rfl rfl rfl (s_Mo_copy4 (cpA (cpA mem 82 95 4) 83 96 4) 84 97 rfl rfl (by decide)) ?_
    show zS zT m_Mo_image (0, 0) 43 [some (2, 80)] [] (cpA (cpA (cpA mem 82 95 4) 83 96 4) 84 97 4) _
    refine zV_aload_n d_Mo_image_43 rfl ?_
    refine zS_getr (r := 85) d_Mo_image_44 f_Mo_22 rfl rfl rfl ?_
    refine zV_aload_n d_Mo_image_47 rfl ?_
    refine zS_getr (r := 98) d_Mo_image_48 f_Mo_62 rfl rfl rfl ?_
    refine zS_invsE (mt' := m_Mo_copy) (avs := [(2, 85), (2, 98)]) (st := []) d_Mo_image_51 l_Mo_322 k_Mo_copy rfl rfl rfl rfl (s_Mo_copy4 (cpA (cpA (cpA mem 82 95 4) 83 96 4) 84 97 4) 85 98 rfl rfl (by decide)) ?_
    show zS zT m_Mo_image (0, 0) 54 [some (2, 80)] [] (cpA (cpA (cpA (cpA mem 82 95 4) 83 96 4) 84 97 4) 85 98 4) _
    refine zV_aload_n d_Mo_image_54 rfl ?_
    refine zS_getr (r := 94) d_Mo_image_55 f_Mo_50 rfl rfl rfl ?_
    refine zV_aload_n d_Mo_image_58 rfl ?_
    refine zS_getr (r := 99) d_Mo_image_59 f_Mo_65 rfl rfl rfl ?_
    refine zS_invsE (mt' := m_Mo_copy) (avs := [(2, 94), (2, 99)]) (st := []) d_Mo_image_62 l_Mo_322 k_Mo_copy rfl rfl rfl rfl (s_Mo_copy24 (cpA (cpA (cpA (cpA mem 82 95 4) 83 96 4) 84 97 4) 85 98 4) 94 99 rfl rfl (by decide)) ?_
    show zS zT m_Mo_image (0, 0) 65 [some (2, 80)] [] (imC mem) _
    refine zV_aload_n d_Mo_image_65 rfl ?_
    refine zV_aload_n d_Mo_image_66 rfl ?_
    refine zS_get d_Mo_image_67 f_Mo_103 rfl rfl ?_
    refine zS_puti d_Mo_image_70 f_Mo_326 rfl ⟨rfl, rfl⟩ rfl ?_
    refine zV_aload_n d_Mo_image_73 rfl ?_
    refine zV_aload_n d_Mo_image_74 rfl ?_
    refine zS_get d_Mo_image_75 f_Mo_113 rfl rfl ?_
    rw [show (zup (imC mem) 80 26 ((imC mem) 80 2)) 80 22 = ((imC mem) 80 22) from zup_k (by omega)]
    refine zS_puti d_Mo_image_78 f_Mo_329 rfl ⟨rfl, rfl⟩ rfl ?_
    refine zV_aload_n d_Mo_image_81 rfl ?_
    refine zV_aload_n d_Mo_image_82 rfl ?_
    refine zS_get d_Mo_image_83 f_Mo_116 rfl rfl ?_
    rw [show (zup (zup (imC mem) 80 26 ((imC mem) 80 2)) 80 27 ((imC mem) 80 22)) 80 3 = ((imC mem) 80 3) from (zup_k (by omega)).trans (zup_k (by omega))]
    refine zS_puti d_Mo_image_86 f_Mo_68 rfl ⟨rfl, rfl⟩ rfl ?_
    refine zV_aload_n d_Mo_image_89 rfl ?_
    refine zS_get d_Mo_image_90 f_Mo_103 rfl rfl ?_
    rw [show (zup (zup (zup (imC mem) 80 26 ((imC mem) 80 2)) 80 27 ((imC mem) 80 22)) 80 25 ((imC mem) 80 3)) 80 2 = ((imC mem) 80 2) from (zup_k (by omega)).trans ((zup_k (by omega)).trans (zup_k (by omega)))]
    exact zS_iret d_Mo_image_93 rfl ⟨Nat.zero_le _, Nat.zero_le _⟩ (Or.inr ⟨by assumption, by rw [imC_80], by unfold imM; rw [imC_80]⟩)
  · refine zV_bipush d_Mo_image_7 ?_
    exact zS_iret d_Mo_image_9 rfl ⟨Nat.zero_le _, Nat.zero_le _⟩ (Or.inl ⟨by assumption, rfl, rfl⟩)
theorem s_Mo_restore (mem : zMem) (h25 : I32 (mem 80 25)) (h3 : I32 (mem 80 3)) : zF m_Mo_restore [(2, 80)] mem (fun r m => (mem 80 25 ≠ mem 80 3 ∧ r = some (0, -103) ∧ m = mem) ∨ (mem 80 25 = mem 80 3 ∧ r = some (0, mem 80 26) ∧ m = reM mem)) := by
  refine zF_of (by decide) (Nat.le_of_ble_eq_true rfl) ?_
  show zS zT m_Mo_restore (0, 0) 0 [some (2, 80)] [] mem _
  refine zV_aload_n d_Mo_restore_0 rfl ?_
  refine zS_get d_Mo_restore_1 f_Mo_68 rfl rfl ?_
  refine zV_aload_n d_Mo_restore_4 rfl ?_
  refine zS_get d_Mo_restore_5 f_Mo_116 rfl rfl ?_
  refine zV_icmp_eq d_Mo_restore_8 (by omega) (by omega) (fun c8 => ?_) (fun c8 => ?_)
  · refine zV_aload_n d_Mo_restore_14 rfl ?_
    refine zS_getr (r := 95) d_Mo_restore_15 f_Mo_53 rfl rfl rfl ?_
    refine zV_aload_n d_Mo_restore_18 rfl ?_
    refine zS_getr (r := 82) d_Mo_restore_19 f_Mo_13 rfl rfl rfl ?_
    refine zS_invsE (mt' := m_Mo_copy) (avs := [(2, 95), (2, 82)]) (st := []) d_Mo_restore_22 l_Mo_322 k_Mo_copy rfl rfl rfl rfl (s_Mo_copy4 mem 95 82 rfl rfl (by decide)) ?_
    show zS zT m_Mo_restore (0, 0) 25 [some (2, 80)] [] (cpA mem 95 82 4) _
    refine zV_aload_n d_Mo_restore_25 rfl ?_
    refine zS_getr (r := 96) d_Mo_restore_26 f_Mo_56 rfl rfl rfl ?_
    refine zV_aload_n d_Mo_restore_29 rfl ?_
    refine zS_getr (r := 83) d_Mo_restore_30 f_Mo_16 rfl rfl rfl ?_
    refine zS_invsE (mt' := m_Mo_copy) (avs := [(2, 96), (2, 83)]) (st := []) d_Mo_restore_33 l_Mo_322 k_Mo_copy rfl rfl rfl rfl (s_Mo_copy4 (cpA mem 95 82 4) 96 83 rfl rfl (by decide)) ?_
    show zS zT m_Mo_restore (0, 0) 36 [some (2, 80)] [] (cpA (cpA mem 95 82 4) 96 83 4) _
    refine zV_aload_n d_Mo_restore_36 rfl ?_
    refine zS_getr (r := 97) d_Mo_restore_37 f_Mo_59 rfl rfl rfl ?_
    refine zV_aload_n d_Mo_restore_40 rfl ?_
    refine zS_getr (r := 84) d_Mo_restore_41 f_Mo_19 rfl rfl rfl ?_
    refine zS_invsE (mt' := m_Mo_copy) (avs := [(2, 97), (2, 84)]) (st := []) d_Mo_restore_44 l_Mo_322 k_Mo_copy rfl rfl rfl rfl (s_Mo_copy4 (cpA (cpA mem 95 82 4) 96 83 4) 97 84 rfl rfl (by decide)) ?_
    show zS zT m_Mo_restore (0, 0) 47 [some (2, 80)] [] (cpA (cpA (cpA mem 95 82 4) 96 83 4) 97 84 4) _
    refine zV_aload_n d_Mo_restore_47 rfl ?_
    refine zS_getr (r := 98) d_Mo_restore_48 f_Mo_62 rfl rfl rfl ?_
    refine zV_aload_n d_Mo_restore_51 rfl ?_
    refine zS_getr (r := 85) d_Mo_restore_52 f_Mo_22 rfl rfl rfl ?_
    refine zS_invsE (mt' := m_Mo_copy) (avs := [(2, 98), (2, 85)]) (st := []) d_Mo_restore_55 l_Mo_322 k_Mo_copy rfl rfl rfl rfl (s_Mo_copy4 (cpA (cpA (cpA mem 95 82 4) 96 83 4) 97 84 4) 98 85 rfl rfl (by decide)) ?_
    show zS zT m_Mo_restore (0, 0) 58 [some (2, 80)] [] (cpA (cpA (cpA (cpA mem 95 82 4) 96 83 4) 97 84 4) 98 85 4) _
    refine zV_aload_n d_Mo_restore_58 rfl ?_
    refine zS_getr (r := 99) d_Mo_restore_59 f_Mo_65 rfl rfl rfl ?_
    refine zV_aload_n d_Mo_restore_62 rfl ?_
    refine zS_getr (r := 94) d_Mo_restore_63 f_Mo_50 rfl rfl rfl ?_
    refine zS_invsE (mt' := m_Mo_copy) (avs := [(2, 99), (2, 94)]) (st := []) d_Mo_restore_66 l_Mo_322 k_Mo_copy rfl rfl rfl rfl (s_Mo_copy24 (cpA (cpA (cpA (cpA mem 95 82 4) 96 83 4) 97 84 4) 98 85 4) 99 94 rfl rfl (by decide)) ?_
    show zS zT m_Mo_restore (0, 0) 69 [some (2, 80)] [] (reC mem) _
    refine zV_aload_n d_Mo_restore_69 rfl ?_
    refine zV_aload_n d_Mo_restore_70 rfl ?_
    refine zS_get d_Mo_restore_71 f_Mo_326 rfl rfl ?_
    refine zS_puti d_Mo_restore_74 f_Mo_103 rfl ⟨rfl, rfl⟩ rfl ?_
    refine zV_aload_n d_Mo_restore_77 rfl ?_
    refine zV_aload_n d_Mo_restore_78 rfl ?_
    refine zS_get d_Mo_restore_79 f_Mo_329 rfl rfl ?_
    rw [show (zup (reC mem) 80 2 ((reC mem) 80 26)) 80 27 = ((reC mem) 80 27) from zup_k (by omega)]
    refine zS_puti d_Mo_restore_82 f_Mo_113 rfl ⟨rfl, rfl⟩ rfl ?_
    refine zV_aload_n d_Mo_restore_85 rfl ?_
    refine zV_iconst d_Mo_restore_86 ?_
    refine zS_putz d_Mo_restore_87 f_Mo_119 rfl ⟨rfl, rfl⟩ rfl (Or.inr rfl) ?_
    refine zV_aload_n d_Mo_restore_90 rfl ?_
    refine zS_get d_Mo_restore_91 f_Mo_103 rfl rfl ?_
    rw [show (zup (zup (zup (reC mem) 80 2 ((reC mem) 80 26)) 80 22 ((reC mem) 80 27)) 80 9 1) 80 2 = ((reC mem) 80 26) from (zup_k (by omega)).trans ((zup_k (by omega)).trans (zup_s))]
    exact zS_iret d_Mo_restore_94 rfl ⟨Nat.zero_le _, Nat.zero_le _⟩ (Or.inr ⟨by assumption, by rw [reC_80], by unfold reM; rw [reC_80]⟩)
  · refine zV_bipush d_Mo_restore_11 ?_
    exact zS_iret d_Mo_restore_13 rfl ⟨Nat.zero_le _, Nat.zero_le _⟩ (Or.inl ⟨by assumption, rfl, rfl⟩)
noncomputable def cpM (m : zMem) (w : Int) : Int := if m 80 2 = 0 then 0 else if w = 1 then m 80 14 else if w = 2 then m 80 15 else if w = 3 then clA m else seA m
noncomputable def cnM (m : zMem) (w : Int) : Int := if w = 0 then m 80 2 else if 1 ≤ w ∧ w ≤ 4 then cpM m w else if w = 5 then m 80 22 else if w = 6 then m 80 1 else if w = 7 then m 80 3 else if w = 8 then m 80 18 else if w = 9 then m 80 4 else if w = 10 then m 80 20 else -102
def CQ (mem : zMem) (w : Int) (m : zMem) : Prop := (¬ (1 ≤ w ∧ w ≤ 4) ∧ m = mem) ∨ ((1 ≤ w ∧ w ≤ 4) ∧ FZ mem m)
theorem s_Mo_countPlane (mem : zMem) (w : Int) (hw : I32 w) (hK : moK mem) (hO : FRS mem) : zF m_Mo_countPlane [(2, 80), (0, w)] mem (fun r m => FZ mem m ∧ r = some (0, cpM m w)) := by
  have k1 := hK.1
  refine zF_of (by decide) (Nat.le_of_ble_eq_true rfl) ?_
  show zS zT m_Mo_countPlane (0, 0) 0 [some (2, 80), some (0, w)] [] mem _
  refine zV_aload_n d_Mo_countPlane_0 rfl ?_
  refine zS_invvE (mt' := m_Mo_lacks) (avs := []) (st := []) d_Mo_countPlane_1 l_Mo_213 k_Mo_lacks rfl rfl rfl rfl rfl (s_Mo_lacks mem (by omega)) ?_
  show zS zT m_Mo_countPlane (0, 0) 4 [some (2, 80), some (0, w)] [(0, (zb (mem 80 2 = 0)))] mem _
  refine zV_ifb_eq d_Mo_countPlane_4 (fun c4 => ?_) (fun c4 => ?_)
  · refine zV_aload_n d_Mo_countPlane_9 rfl ?_
    refine zS_invv (mt' := m_Mo_freshen) (avs := []) (st := []) d_Mo_countPlane_10 l_Mo_217 k_Mo_freshen rfl rfl rfl rfl rfl (s_Mo_freshen mem hK (FRS_T hO (by assumption))) (fun r9 m1 hq9 => ?_)
    obtain ⟨rfl, hR⟩ := hq9
    have e2 : m1 80 2 = mem 80 2 := hR.2.1.2 2 (by decide) (by decide) (by decide)
    show zS zT m_Mo_countPlane (0, 0) 13 [some (2, 80), some (0, w)] [] m1 _
    refine zV_iload_n d_Mo_countPlane_13 rfl ?_
    refine zV_iconst d_Mo_countPlane_14 ?_
    refine zV_icmp_ne d_Mo_countPlane_15 (by omega) (by omega) (fun c15 => ?_) (fun c15 => ?_)
    · refine zV_iload_n d_Mo_countPlane_25 rfl ?_
      refine zV_iconst d_Mo_countPlane_26 ?_
      refine zV_icmp_ne d_Mo_countPlane_27 (by omega) (by omega) (fun c27 => ?_) (fun c27 => ?_)
      · refine zV_iload_n d_Mo_countPlane_37 rfl ?_
        refine zV_iconst d_Mo_countPlane_38 ?_
        refine zV_icmp_ne d_Mo_countPlane_39 (by omega) (by omega) (fun c39 => ?_) (fun c39 => ?_)
        · refine zV_aload_n d_Mo_countPlane_49 rfl ?_
          refine zS_invvE (mt' := m_Mo_sectionsAll) (avs := []) (st := []) d_Mo_countPlane_50 l_Mo_332 k_Mo_sectionsAll rfl rfl rfl rfl rfl (s_Mo_sectionsAll m1 (ML_ok (FRm_K hR hK) hR.1).2.2.1.1) ?_
          show zS zT m_Mo_countPlane (0, 0) 53 [some (2, 80), some (0, w)] [(0, (seA m1))] m1 _
          exact zS_iret d_Mo_countPlane_53 rfl ⟨Nat.zero_le _, Nat.zero_le _⟩ (by refine ⟨Or.inr ⟨by assumption, hR⟩, ?_⟩; unfold cpM; rw [if_neg (by omega)]; (repeat' first | rw [if_pos (by omega)] | rw [if_neg (by omega)]))
        · refine zV_aload_n d_Mo_countPlane_42 rfl ?_
          refine zS_invvE (mt' := m_Mo_cellsAll) (avs := []) (st := []) d_Mo_countPlane_43 l_Mo_272 k_Mo_cellsAll rfl rfl rfl rfl rfl (s_Mo_cellsAll m1 (ML_ok (FRm_K hR hK) hR.1).2.2.1.1) ?_
          show zS zT m_Mo_countPlane (0, 0) 46 [some (2, 80), some (0, w)] [(0, (clA m1))] m1 _
          refine zV_goto d_Mo_countPlane_46 ?_
          exact zS_iret d_Mo_countPlane_53 rfl ⟨Nat.zero_le _, Nat.zero_le _⟩ (by refine ⟨Or.inr ⟨by assumption, hR⟩, ?_⟩; unfold cpM; rw [if_neg (by omega)]; (repeat' first | rw [if_pos (by omega)] | rw [if_neg (by omega)]))
      · refine zV_aload_n d_Mo_countPlane_30 rfl ?_
        refine zS_get d_Mo_countPlane_31 f_Mo_184 rfl rfl ?_
        refine zV_goto d_Mo_countPlane_34 ?_
        exact zS_iret d_Mo_countPlane_53 rfl ⟨Nat.zero_le _, Nat.zero_le _⟩ (by refine ⟨Or.inr ⟨by assumption, hR⟩, ?_⟩; unfold cpM; rw [if_neg (by omega)]; (repeat' first | rw [if_pos (by omega)] | rw [if_neg (by omega)]))
    · refine zV_aload_n d_Mo_countPlane_18 rfl ?_
      refine zS_get d_Mo_countPlane_19 f_Mo_156 rfl rfl ?_
      refine zV_goto d_Mo_countPlane_22 ?_
      exact zS_iret d_Mo_countPlane_53 rfl ⟨Nat.zero_le _, Nat.zero_le _⟩ (by refine ⟨Or.inr ⟨by assumption, hR⟩, ?_⟩; unfold cpM; rw [if_neg (by omega)]; (repeat' first | rw [if_pos (by omega)] | rw [if_neg (by omega)]))
  · refine zV_iconst d_Mo_countPlane_7 ?_
    exact zS_iret d_Mo_countPlane_8 rfl ⟨Nat.zero_le _, Nat.zero_le _⟩ (by refine ⟨Or.inl ⟨by assumption, rfl⟩, ?_⟩; unfold cpM; rw [if_pos (by assumption)])
theorem s_Mo_countOf (mem : zMem) (w : Int) (hw : I32 w) (hK : moK mem) (hO : FRS mem) : zF m_Mo_countOf [(2, 80), (0, w)] mem (fun r m => CQ mem w m ∧ r = some (0, cnM m w)) := by
  refine zF_of (by decide) (Nat.le_of_ble_eq_true rfl) ?_
  show zS zT m_Mo_countOf (0, 0) 0 [some (2, 80), some (0, w)] [] mem _
  refine zV_iload_n d_Mo_countOf_0 rfl ?_
  by_cases c1_0 : w = 0
  · refine zV_tsIn (off := 59) (tgt := 60) d_Mo_countOf_1 (by omega) c1_0 (by decide) ?_
    refine zV_aload_n d_Mo_countOf_60 rfl ?_
    refine zS_get d_Mo_countOf_61 f_Mo_103 rfl rfl ?_
    exact zS_iret d_Mo_countOf_64 rfl ⟨Nat.zero_le _, Nat.zero_le _⟩ (by refine ⟨Or.inl ⟨by omega, rfl⟩, ?_⟩; unfold cnM; (repeat' first | rw [if_pos (by omega)] | rw [if_neg (by omega)]))
  by_cases c1_1 : w = 1
  · refine zV_tsIn (off := 64) (tgt := 65) d_Mo_countOf_1 (by omega) c1_1 (by decide) ?_
    refine zV_aload_n d_Mo_countOf_65 rfl ?_
    refine zV_iload_n d_Mo_countOf_66 rfl ?_
    refine zS_invv (mt' := m_Mo_countPlane) (avs := [(0, w)]) (st := []) d_Mo_countOf_67 l_Mo_335 k_Mo_countPlane rfl rfl rfl rfl rfl (s_Mo_countPlane mem w hw hK hO) (fun r9 m5 hq9 => ?_)
    obtain ⟨hZ, rfl⟩ := hq9
    show zS zT m_Mo_countOf (0, 0) 70 [some (2, 80), some (0, w)] [(0, (cpM m5 w))] m5 _
    exact zS_iret d_Mo_countOf_70 rfl ⟨Nat.zero_le _, Nat.zero_le _⟩ (by refine ⟨Or.inr ⟨by omega, hZ⟩, ?_⟩; unfold cnM; rw [if_neg (by omega), if_pos (by omega)])
  by_cases c1_2 : w = 2
  · refine zV_tsIn (off := 64) (tgt := 65) d_Mo_countOf_1 (by omega) c1_2 (by decide) ?_
    refine zV_aload_n d_Mo_countOf_65 rfl ?_
    refine zV_iload_n d_Mo_countOf_66 rfl ?_
    refine zS_invv (mt' := m_Mo_countPlane) (avs := [(0, w)]) (st := []) d_Mo_countOf_67 l_Mo_335 k_Mo_countPlane rfl rfl rfl rfl rfl (s_Mo_countPlane mem w hw hK hO) (fun r9 m5 hq9 => ?_)
    obtain ⟨hZ, rfl⟩ := hq9
    show zS zT m_Mo_countOf (0, 0) 70 [some (2, 80), some (0, w)] [(0, (cpM m5 w))] m5 _
    exact zS_iret d_Mo_countOf_70 rfl ⟨Nat.zero_le _, Nat.zero_le _⟩ (by refine ⟨Or.inr ⟨by omega, hZ⟩, ?_⟩; unfold cnM; rw [if_neg (by omega), if_pos (by omega)])
  by_cases c1_3 : w = 3
  · refine zV_tsIn (off := 64) (tgt := 65) d_Mo_countOf_1 (by omega) c1_3 (by decide) ?_
    refine zV_aload_n d_Mo_countOf_65 rfl ?_
    refine zV_iload_n d_Mo_countOf_66 rfl ?_
    refine zS_invv (mt' := m_Mo_countPlane) (avs := [(0, w)]) (st := []) d_Mo_countOf_67 l_Mo_335 k_Mo_countPlane rfl rfl rfl rfl rfl (s_Mo_countPlane mem w hw hK hO) (fun r9 m5 hq9 => ?_)
    obtain ⟨hZ, rfl⟩ := hq9
    show zS zT m_Mo_countOf (0, 0) 70 [some (2, 80), some (0, w)] [(0, (cpM m5 w))] m5 _
    exact zS_iret d_Mo_countOf_70 rfl ⟨Nat.zero_le _, Nat.zero_le _⟩ (by refine ⟨Or.inr ⟨by omega, hZ⟩, ?_⟩; unfold cnM; rw [if_neg (by omega), if_pos (by omega)])
  by_cases c1_4 : w = 4
  · refine zV_tsIn (off := 64) (tgt := 65) d_Mo_countOf_1 (by omega) c1_4 (by decide) ?_
    refine zV_aload_n d_Mo_countOf_65 rfl ?_
    refine zV_iload_n d_Mo_countOf_66 rfl ?_
    refine zS_invv (mt' := m_Mo_countPlane) (avs := [(0, w)]) (st := []) d_Mo_countOf_67 l_Mo_335 k_Mo_countPlane rfl rfl rfl rfl rfl (s_Mo_countPlane mem w hw hK hO) (fun r9 m5 hq9 => ?_)
    obtain ⟨hZ, rfl⟩ := hq9
    show zS zT m_Mo_countOf (0, 0) 70 [some (2, 80), some (0, w)] [(0, (cpM m5 w))] m5 _
    exact zS_iret d_Mo_countOf_70 rfl ⟨Nat.zero_le _, Nat.zero_le _⟩ (by refine ⟨Or.inr ⟨by omega, hZ⟩, ?_⟩; unfold cnM; rw [if_neg (by omega), if_pos (by omega)])
  by_cases c1_5 : w = 5
  · refine zV_tsIn (off := 70) (tgt := 71) d_Mo_countOf_1 (by omega) c1_5 (by decide) ?_
    refine zV_aload_n d_Mo_countOf_71 rfl ?_
    refine zS_get d_Mo_countOf_72 f_Mo_113 rfl rfl ?_
    exact zS_iret d_Mo_countOf_75 rfl ⟨Nat.zero_le _, Nat.zero_le _⟩ (by refine ⟨Or.inl ⟨by omega, rfl⟩, ?_⟩; unfold cnM; (repeat' first | rw [if_pos (by omega)] | rw [if_neg (by omega)]))
  by_cases c1_6 : w = 6
  · refine zV_tsIn (off := 75) (tgt := 76) d_Mo_countOf_1 (by omega) c1_6 (by decide) ?_
    refine zV_aload_n d_Mo_countOf_76 rfl ?_
    refine zS_get d_Mo_countOf_77 f_Mo_84 rfl rfl ?_
    exact zS_iret d_Mo_countOf_80 rfl ⟨Nat.zero_le _, Nat.zero_le _⟩ (by refine ⟨Or.inl ⟨by omega, rfl⟩, ?_⟩; unfold cnM; (repeat' first | rw [if_pos (by omega)] | rw [if_neg (by omega)]))
  by_cases c1_7 : w = 7
  · refine zV_tsIn (off := 80) (tgt := 81) d_Mo_countOf_1 (by omega) c1_7 (by decide) ?_
    refine zV_aload_n d_Mo_countOf_81 rfl ?_
    refine zS_get d_Mo_countOf_82 f_Mo_116 rfl rfl ?_
    exact zS_iret d_Mo_countOf_85 rfl ⟨Nat.zero_le _, Nat.zero_le _⟩ (by refine ⟨Or.inl ⟨by omega, rfl⟩, ?_⟩; unfold cnM; (repeat' first | rw [if_pos (by omega)] | rw [if_neg (by omega)]))
  by_cases c1_8 : w = 8
  · refine zV_tsIn (off := 85) (tgt := 86) d_Mo_countOf_1 (by omega) c1_8 (by decide) ?_
    refine zV_aload_n d_Mo_countOf_86 rfl ?_
    refine zS_get d_Mo_countOf_87 f_Mo_263 rfl rfl ?_
    exact zS_iret d_Mo_countOf_90 rfl ⟨Nat.zero_le _, Nat.zero_le _⟩ (by refine ⟨Or.inl ⟨by omega, rfl⟩, ?_⟩; unfold cnM; (repeat' first | rw [if_pos (by omega)] | rw [if_neg (by omega)]))
  by_cases c1_9 : w = 9
  · refine zV_tsIn (off := 90) (tgt := 91) d_Mo_countOf_1 (by omega) c1_9 (by decide) ?_
    refine zV_aload_n d_Mo_countOf_91 rfl ?_
    refine zS_get d_Mo_countOf_92 f_Mo_72 rfl rfl ?_
    exact zS_iret d_Mo_countOf_95 rfl ⟨Nat.zero_le _, Nat.zero_le _⟩ (by refine ⟨Or.inl ⟨by omega, rfl⟩, ?_⟩; unfold cnM; (repeat' first | rw [if_pos (by omega)] | rw [if_neg (by omega)]))
  by_cases c1_10 : w = 10
  · refine zV_tsIn (off := 95) (tgt := 96) d_Mo_countOf_1 (by omega) c1_10 (by decide) ?_
    refine zV_aload_n d_Mo_countOf_96 rfl ?_
    refine zS_get d_Mo_countOf_97 f_Mo_260 rfl rfl ?_
    exact zS_iret d_Mo_countOf_100 rfl ⟨Nat.zero_le _, Nat.zero_le _⟩ (by refine ⟨Or.inl ⟨by omega, rfl⟩, ?_⟩; unfold cnM; (repeat' first | rw [if_pos (by omega)] | rw [if_neg (by omega)]))
  refine zV_tsOut (tgt := 101) d_Mo_countOf_1 (by omega) (by omega) (by decide) ?_
  refine zV_bipush d_Mo_countOf_101 ?_
  exact zS_iret d_Mo_countOf_103 rfl ⟨Nat.zero_le _, Nat.zero_le _⟩ (by refine ⟨Or.inl ⟨by omega, rfl⟩, ?_⟩; unfold cnM; (repeat' first | rw [if_pos (by omega)] | rw [if_neg (by omega)]))
theorem s_Mo_count (mem : zMem) (w : Int) (hw : I32 w) (hK : moK mem) (hO : FRS mem) : zF m_Mo_count [(2, 80), (0, w)] mem (fun r m => CQ mem w m ∧ r = some (0, cnM m w)) := by
  refine zF_of (by decide) (Nat.le_of_ble_eq_true rfl) ?_
  show zS zT m_Mo_count (0, 0) 0 [some (2, 80), some (0, w)] [] mem _
  refine zV_aload_n d_Mo_count_0 rfl ?_
  refine zV_iload_n d_Mo_count_1 rfl ?_
  refine zS_invv (mt' := m_Mo_countOf) (avs := [(0, w)]) (st := []) d_Mo_count_2 l_Mo_338 k_Mo_countOf rfl rfl rfl rfl rfl (s_Mo_countOf mem w hw hK hO) (fun r9 m5 hq9 => ?_)
  obtain ⟨hZ, rfl⟩ := hq9
  show zS zT m_Mo_count (0, 0) 5 [some (2, 80), some (0, w)] [(0, (cnM m5 w))] m5 _
  exact zS_iret d_Mo_count_5 rfl ⟨Nat.zero_le _, Nat.zero_le _⟩ ⟨hZ, rfl⟩
