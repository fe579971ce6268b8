/-! what is done to the plane -/
theorem okI_fr {mem m : zMem} {t : Int} (h : ∀ x, t ≤ x → x < t + 9 → m x = mem x) (hI : okI mem t) : okI m t := by
  obtain ⟨h1, h2, h3⟩ := hI
  refine ⟨okC_fr (h _ (by omega) (by omega)) (h _ (by omega) (by omega)) (h _ (by omega) (by omega)) (h _ (by omega) (by omega)) (h _ (by omega) (by omega)) h1, okB_fr (h _ (by omega) (by omega)) (h _ (by omega) (by omega)) (h _ (by omega) (by omega)) h2, ?_⟩
  unfold RT
  rw [h (t + 1) (by omega) (by omega)]
  exact h3
theorem okT_St {mem m : zMem} {o t : Int} (h : StD mem o m t) : okT m t := by
  obtain ⟨⟨h1, h2, h3⟩, ⟨_, p1, p2, _⟩, h5, h6, _⟩ := h
  exact ⟨by omega, by omega, h1.1, h2.2.2.1, h2.2.2.2, fun c q1 q2 => (h1.2 c q1 q2).2.2.2⟩
def BLT (m1 m : zMem) : Prop := StD m1 3 m 31 ∧ frS 31 m1 m
theorem ac_fr {mem : zMem} {k b c x : Int} (h : ¬ (0 ≤ x ∧ x ≤ 8)) (hn : 0 ≤ mem 3 1) : acM mem k b c x = mem x := by
  unfold acM
  by_cases e : mem 3 1 < 4
  · rw [cif_t e, zup_a (by omega)]
    unfold apR
    rw [zup_a (by omega), wrC_o (by omega)]
  · rw [cif_f e]
theorem ac_v {mem : zMem} {k b c : Int} (e : mem 3 1 < 4) (h0 : 0 ≤ mem 3 1) : acM mem k b c 3 1 = mem 3 1 + 1 ∧ (∀ j, 0 ≤ j → j < mem 3 1 → acM mem k b c (3 + 2 + j) = mem (3 + 2 + j)) ∧ acM mem k b c (3 + 2 + mem 3 1) 0 = k ∧ acM mem k b c (3 + 2 + mem 3 1) 1 = b ∧ acM mem k b c (3 + 2 + mem 3 1) 2 = c ∧ acM mem k b c (3 + 2 + mem 3 1) 3 = mem 0 15 := by
  unfold acM
  rw [cif_t e]
  unfold apR
  refine ⟨by rw [zup_a (by decide), zup_s], fun j q1 q2 => by rw [zup_a (by omega), zup_a (by omega), wrC_o (by omega)], ?_, ?_, ?_, ?_⟩ <;>
  · rw [zup_a (by omega), zup_a (by omega)]
    unfold wrC
    simp only [zup_f]
    rfl
theorem ac_K {mem : zMem} {k b c : Int} (hK : rwK mem 3) (hk : 0 ≤ k ∧ k ≤ 4) (hb : -9 ≤ b ∧ b ≤ 9) (hc : -9 ≤ c ∧ c ≤ 9) : rwK (acM mem k b c) 3 := by
  by_cases e : mem 3 1 < 4
  · obtain ⟨v1, v2, v3, v4, v5, _⟩ := ac_v (k := k) (b := b) (c := c) e hK.1.1
    have hn := hK.1
    refine ⟨by omega, fun j q1 q2 => ?_⟩
    by_cases e2 : j = mem 3 1
    · rw [e2, v3, v4, v5]
      exact ⟨hk, hb, hc⟩
    · rw [v2 j q1 (by omega)]
      exact hK.2 j q1 (by omega)
  · have : acM mem k b c = mem := by unfold acM; rw [cif_f e]
    rw [this]
    exact hK
theorem up_K {mem : zMem} {i s v : Int} (hK : rwK mem 3) (hi : 0 ≤ i ∧ i < 4) (hv : (s = 0 → 0 ≤ v ∧ v ≤ 4) ∧ (s = 1 → -9 ≤ v ∧ v ≤ 9) ∧ (s = 2 → -9 ≤ v ∧ v ≤ 9)) : rwK (zup mem (3 + 2 + i) s v) 3 := by
  refine ⟨by rw [zup_a (by omega)]; exact hK.1, fun j q1 q2 => ?_⟩
  rw [zup_a (by omega)] at q2
  have hj := hK.2 j q1 q2
  by_cases e : j = i
  · subst e
    simp only [zup_f]
    unfold uf
    refine ⟨?_, ?_, ?_⟩
    · by_cases z : (0 : Int) = s
      · rw [if_pos z]; exact hv.1 z.symm
      · rw [if_neg z]; exact hj.1
    · by_cases z : (1 : Int) = s
      · rw [if_pos z]; exact hv.2.1 z.symm
      · rw [if_neg z]; exact hj.2.1
    · by_cases z : (2 : Int) = s
      · rw [if_pos z]; exact hv.2.2 z.symm
      · rw [if_neg z]; exact hj.2.2
  · rw [zup_a (by omega)]
    exact hj
theorem s_Cp_put (mem : zMem) (k b c : Int) (hk : I32 k) (hb : I32 b) (hc : I32 c) (hI : okI mem 31) (hK : rwK mem 3) : zF m_Cp_put [(2, 0), (0, k), (0, b), (0, c)] mem (fun r m => (¬ ((0 ≤ k ∧ k < 5) ∧ (-9 ≤ b ∧ b ≤ 9) ∧ (-9 ≤ c ∧ c ≤ 9)) ∧ r = some (0, -102) ∧ m = mem) ∨ (((0 ≤ k ∧ k < 5) ∧ (-9 ≤ b ∧ b ≤ 9) ∧ (-9 ≤ c ∧ c ≤ 9)) ∧ mem 3 1 = 0 ∧ r = some (0, -103) ∧ m = mem) ∨ (((0 ≤ k ∧ k < 5) ∧ (-9 ≤ b ∧ b ≤ 9) ∧ (-9 ≤ c ∧ c ≤ 9)) ∧ mem 3 1 = 4 ∧ r = some (0, -104) ∧ m = mem) ∨ (((0 ≤ k ∧ k < 5) ∧ (-9 ≤ b ∧ b ≤ 9) ∧ (-9 ≤ c ∧ c ≤ 9)) ∧ (0 < mem 3 1 ∧ mem 3 1 < 4) ∧ r = some (0, mem 3 1 + 1) ∧ BLT (acM mem k b c) m)) := by
  have k1 := hK.1
  have hI2 : okI (acM mem k b c) 31 := okI_fr (fun x q1 q2 => ac_fr (by omega) hK.1.1) hI
  refine zF_of (by decide) (Nat.le_of_ble_eq_true rfl) ?_
  show zS zT m_Cp_put (0, 0) 0 [some (2, 0), some (0, k), some (0, b), some (0, c)] [] mem _
  refine zV_iload_n d_Cp_put_0 rfl ?_
  refine zS_invsE (mt' := m_Cp_isKind) (avs := [(0, k)]) (st := []) d_Cp_put_1 l_Cp_151 k_Cp_isKind rfl rfl rfl rfl (s_Cp_isKind mem k (by omega)) ?_
  show zS zT m_Cp_put (0, 0) 4 [some (2, 0), some (0, k), some (0, b), some (0, c)] [(0, (zb (0 ≤ k ∧ k < 5)))] mem _
  refine zV_ifb_eq d_Cp_put_4 (fun c4 => ?_) (fun c4 => ?_)
  · refine zV_bipush d_Cp_put_21 ?_
    exact zS_iret d_Cp_put_23 rfl ⟨Nat.zero_le _, Nat.zero_le _⟩ (Or.inl ⟨by omega, rfl, rfl⟩)
  · refine zV_iload_n d_Cp_put_7 rfl ?_
    refine zS_invsE (mt' := m_Cp_isNear) (avs := [(0, b)]) (st := []) d_Cp_put_8 l_Cp_196 k_Cp_isNear rfl rfl rfl rfl (s_Cp_isNear mem b (by omega)) ?_
    show zS zT m_Cp_put (0, 0) 11 [some (2, 0), some (0, k), some (0, b), some (0, c)] [(0, (zb (-9 ≤ b ∧ b ≤ 9)))] mem _
    refine zV_ifb_eq d_Cp_put_11 (fun c11 => ?_) (fun c11 => ?_)
    · refine zV_bipush d_Cp_put_21 ?_
      exact zS_iret d_Cp_put_23 rfl ⟨Nat.zero_le _, Nat.zero_le _⟩ (Or.inl ⟨by omega, rfl, rfl⟩)
    · refine zV_iload_n d_Cp_put_14 rfl ?_
      refine zS_invsE (mt' := m_Cp_isNear) (avs := [(0, c)]) (st := []) d_Cp_put_15 l_Cp_196 k_Cp_isNear rfl rfl rfl rfl (s_Cp_isNear mem c (by omega)) ?_
      show zS zT m_Cp_put (0, 0) 18 [some (2, 0), some (0, k), some (0, b), some (0, c)] [(0, (zb (-9 ≤ c ∧ c ≤ 9)))] mem _
      refine zV_ifb_ne d_Cp_put_18 (fun c18 => ?_) (fun c18 => ?_)
      · refine zV_aload_n d_Cp_put_24 rfl ?_
        refine zS_getr (r := 3) d_Cp_put_25 f_Cp_19 rfl rfl rfl ?_
        refine zS_get d_Cp_put_28 f_Cp_106 rfl rfl ?_
        refine zV_if_ne d_Cp_put_31 (by omega) (fun c31 => ?_) (fun c31 => ?_)
        · refine zV_aload_n d_Cp_put_37 rfl ?_
          refine zS_getr (r := 3) d_Cp_put_38 f_Cp_19 rfl rfl rfl ?_
          refine zS_get d_Cp_put_41 f_Cp_106 rfl rfl ?_
          refine zV_iconst d_Cp_put_44 ?_
          refine zV_icmp_lt d_Cp_put_45 (by omega) (by omega) (fun c45 => ?_) (fun c45 => ?_)
          · refine zV_aload_n d_Cp_put_51 rfl ?_
            refine zV_iload_n d_Cp_put_52 rfl ?_
            refine zV_iload_n d_Cp_put_53 rfl ?_
            refine zV_iload_n d_Cp_put_54 rfl ?_
            refine zS_invvE (mt' := m_Cp_appendCurve) (avs := [(0, k), (0, b), (0, c)]) (st := []) d_Cp_put_55 l_Cp_114 k_Cp_appendCurve rfl rfl rfl rfl rfl (s_Cp_appendCurve mem k b c (by omega)) ?_
            show zS zT m_Cp_put (0, 0) 58 [some (2, 0), some (0, k), some (0, b), some (0, c)] [] (acM mem k b c) _
            refine zV_aload_n d_Cp_put_58 rfl ?_
            refine zS_getr (r := 31) d_Cp_put_59 f_Cp_42 rfl rfl rfl ?_
            refine zV_aload_n d_Cp_put_62 rfl ?_
            refine zS_getr (r := 3) d_Cp_put_63 f_Cp_19 rfl rfl rfl ?_
            refine zS_invv (mt' := m_St_build) (avs := [(2, 3)]) (st := []) d_Cp_put_66 l_Cp_119 k_St_build rfl rfl rfl rfl rfl (s_St_build (acM mem k b c) 31 3 (Or.inl rfl) (Or.inl rfl) (ac_K hK (by omega) (by omega) (by omega)) hI2.1 hI2.2.1 hI2.2.2) (fun r9 m9 hq9 => ?_)
            obtain ⟨rfl, hb9⟩ := hq9
            obtain ⟨hD9, hF9⟩ := bld_fin (ac_K hK (by omega) (by omega) (by omega)) hI2 hb9
            show zS zT m_Cp_put (0, 0) 69 [some (2, 0), some (0, k), some (0, b), some (0, c)] [] m9 _
            refine zV_aload_n d_Cp_put_69 rfl ?_
            refine zS_getr (r := 3) d_Cp_put_70 f_Cp_19 rfl rfl rfl ?_
            refine zS_get d_Cp_put_73 f_Cp_106 rfl rfl ?_
            exact zS_iret d_Cp_put_76 rfl ⟨Nat.zero_le _, Nat.zero_le _⟩ (Or.inr (Or.inr (Or.inr ⟨by omega, by omega, by rw [hF9 3 (by omega), (ac_v (by omega) (by omega)).1], hD9, hF9⟩)))
          · refine zV_bipush d_Cp_put_48 ?_
            exact zS_iret d_Cp_put_50 rfl ⟨Nat.zero_le _, Nat.zero_le _⟩ (Or.inr (Or.inr (Or.inl ⟨by omega, by omega, rfl, rfl⟩)))
        · refine zV_bipush d_Cp_put_34 ?_
          exact zS_iret d_Cp_put_36 rfl ⟨Nat.zero_le _, Nat.zero_le _⟩ (Or.inr (Or.inl ⟨by omega, by omega, rfl, rfl⟩))
      · refine zV_bipush d_Cp_put_21 ?_
        exact zS_iret d_Cp_put_23 rfl ⟨Nat.zero_le _, Nat.zero_le _⟩ (Or.inl ⟨by omega, rfl, rfl⟩)
theorem s_Cp_change (mem : zMem) (i k : Int) (hi : I32 i) (hk : I32 k) (hI : okI mem 31) (hK : rwK mem 3) : zF m_Cp_change [(2, 0), (0, i), (0, k)] mem (fun r m => (¬ (0 ≤ i ∧ i < mem 3 1) ∧ r = some (0, -101) ∧ m = mem) ∨ ((0 ≤ i ∧ i < mem 3 1) ∧ ¬ (0 ≤ k ∧ k < 5) ∧ r = some (0, -102) ∧ m = mem) ∨ ((0 ≤ i ∧ i < mem 3 1) ∧ (0 ≤ k ∧ k < 5) ∧ r = some (0, mem (3 + 2 + i) 0) ∧ BLT (zup mem (3 + 2 + i) 0 k) m)) := by
  have k1 := hK.1
  have hI2 : 0 ≤ i → i < 4 → okI (zup mem (3 + 2 + i) 0 k) 31 := fun q1 q2 => okI_fr (fun x q1 q2 => zup_a (by omega)) hI
  refine zF_of (by decide) (Nat.le_of_ble_eq_true rfl) ?_
  show zS zT m_Cp_change (0, 0) 0 [some (2, 0), some (0, i), some (0, k), none] [] mem _
  refine zV_aload_n d_Cp_change_0 rfl ?_
  refine zS_getr (r := 3) d_Cp_change_1 f_Cp_19 rfl rfl rfl ?_
  refine zV_iload_n d_Cp_change_4 rfl ?_
  refine zS_invvE (mt' := m_Rw_has) (avs := [(0, i)]) (st := []) d_Cp_change_5 l_Cp_123 k_Rw_has rfl rfl rfl rfl rfl (s_Rw_has mem 3 i (Or.inl rfl) (by omega) (by omega)) ?_
  show zS zT m_Cp_change (0, 0) 8 [some (2, 0), some (0, i), some (0, k), none] [(0, (zb (0 ≤ i ∧ i < mem 3 1)))] mem _
  refine zV_ifb_ne d_Cp_change_8 (fun c8 => ?_) (fun c8 => ?_)
  · refine zV_iload_n d_Cp_change_14 rfl ?_
    refine zS_invsE (mt' := m_Cp_isKind) (avs := [(0, k)]) (st := []) d_Cp_change_15 l_Cp_151 k_Cp_isKind rfl rfl rfl rfl (s_Cp_isKind mem k (by omega)) ?_
    show zS zT m_Cp_change (0, 0) 18 [some (2, 0), some (0, i), some (0, k), none] [(0, (zb (0 ≤ k ∧ k < 5)))] mem _
    refine zV_ifb_ne d_Cp_change_18 (fun c18 => ?_) (fun c18 => ?_)
    · refine zV_aload_n d_Cp_change_24 rfl ?_
      refine zS_getr (r := 3) d_Cp_change_25 f_Cp_19 rfl rfl rfl ?_
      refine zS_getr (r := 4) d_Cp_change_28 f_Cp_126 rfl rfl rfl ?_
      refine zV_iload_n d_Cp_change_31 rfl ?_
      refine zS_ald15 (r := (3 + 2 + i)) d_Cp_change_32 rfl rfl ⟨by omega, by omega⟩ (by omega) ?_
      refine zS_get d_Cp_change_33 f_Cp_130 (kRwc (Or.inl rfl) (by omega) (by omega)) rfl ?_
      refine zV_istore_n (L' := [some (2, 0), some (0, i), some (0, k), some (0, (mem (3 + 2 + i) 0))]) d_Cp_change_36 (by decide) rfl ?_
      refine zV_aload_n d_Cp_change_37 rfl ?_
      refine zS_getr (r := 3) d_Cp_change_38 f_Cp_19 rfl rfl rfl ?_
      refine zS_getr (r := 4) d_Cp_change_41 f_Cp_126 rfl rfl rfl ?_
      refine zV_iload_n d_Cp_change_44 rfl ?_
      refine zS_ald15 (r := (3 + 2 + i)) d_Cp_change_45 rfl rfl ⟨by omega, by omega⟩ (by omega) ?_
      refine zV_iload_n d_Cp_change_46 rfl ?_
      refine zS_puti d_Cp_change_47 f_Cp_130 (kRwc (Or.inl rfl) (by omega) (by omega)) ⟨rfl, rfl⟩ rfl ?_
      refine zV_aload_n d_Cp_change_50 rfl ?_
      refine zS_getr (r := 31) d_Cp_change_51 f_Cp_42 rfl rfl rfl ?_
      refine zV_aload_n d_Cp_change_54 rfl ?_
      refine zS_getr (r := 3) d_Cp_change_55 f_Cp_19 rfl rfl rfl ?_
      refine zS_invv (mt' := m_St_build) (avs := [(2, 3)]) (st := []) d_Cp_change_58 l_Cp_119 k_St_build rfl rfl rfl rfl rfl (s_St_build (zup mem (3 + 2 + i) 0 k) 31 3 (Or.inl rfl) (Or.inl rfl) (up_K hK (by omega) (by omega)) (hI2 (by omega) (by omega)).1 (hI2 (by omega) (by omega)).2.1 (hI2 (by omega) (by omega)).2.2) (fun r9 m9 hq9 => ?_)
      obtain ⟨rfl, hb9⟩ := hq9
      obtain ⟨hD9, hF9⟩ := bld_fin (up_K hK (by omega) (by omega)) (hI2 (by omega) (by omega)) hb9
      show zS zT m_Cp_change (0, 0) 61 [some (2, 0), some (0, i), some (0, k), some (0, (mem (3 + 2 + i) 0))] [] m9 _
      refine zV_iload_n d_Cp_change_61 rfl ?_
      exact zS_iret d_Cp_change_62 rfl ⟨Nat.zero_le _, Nat.zero_le _⟩ (Or.inr (Or.inr ⟨by omega, by omega, rfl, hD9, hF9⟩))
    · refine zV_bipush d_Cp_change_21 ?_
      exact zS_iret d_Cp_change_23 rfl ⟨Nat.zero_le _, Nat.zero_le _⟩ (Or.inr (Or.inl ⟨by omega, by omega, rfl, rfl⟩))
  · refine zV_bipush d_Cp_change_11 ?_
    exact zS_iret d_Cp_change_13 rfl ⟨Nat.zero_le _, Nat.zero_le _⟩ (Or.inl ⟨by omega, rfl, rfl⟩)
theorem s_Cp_move (mem : zMem) (i b c : Int) (hi : I32 i) (hb : I32 b) (hc : I32 c) (hI : okI mem 31) (hK : rwK mem 3) : zF m_Cp_move [(2, 0), (0, i), (0, b), (0, c)] mem (fun r m => (¬ (0 ≤ i ∧ i < mem 3 1) ∧ r = some (0, -101) ∧ m = mem) ∨ ((0 ≤ i ∧ i < mem 3 1) ∧ ¬ ((-9 ≤ b ∧ b ≤ 9) ∧ (-9 ≤ c ∧ c ≤ 9)) ∧ r = some (0, -102) ∧ m = mem) ∨ ((0 ≤ i ∧ i < mem 3 1) ∧ ((-9 ≤ b ∧ b ≤ 9) ∧ (-9 ≤ c ∧ c ≤ 9)) ∧ r = some (0, m 31 2 + 2 * scS m 31) ∧ BLT (zup (zup mem (3 + 2 + i) 1 b) (3 + 2 + i) 2 c) m)) := by
  have k1 := hK.1
  have hI2 : 0 ≤ i → i < 4 → okI (zup (zup mem (3 + 2 + i) 1 b) (3 + 2 + i) 2 c) 31 := fun q1 q2 => okI_fr (fun x q1 q2 => by rw [zup_a (by omega), zup_a (by omega)]) hI
  refine zF_of (by decide) (Nat.le_of_ble_eq_true rfl) ?_
  show zS zT m_Cp_move (0, 0) 0 [some (2, 0), some (0, i), some (0, b), some (0, c)] [] mem _
  refine zV_aload_n d_Cp_move_0 rfl ?_
  refine zS_getr (r := 3) d_Cp_move_1 f_Cp_19 rfl rfl rfl ?_
  refine zV_iload_n d_Cp_move_4 rfl ?_
  refine zS_invvE (mt' := m_Rw_has) (avs := [(0, i)]) (st := []) d_Cp_move_5 l_Cp_123 k_Rw_has rfl rfl rfl rfl rfl (s_Rw_has mem 3 i (Or.inl rfl) (by omega) (by omega)) ?_
  show zS zT m_Cp_move (0, 0) 8 [some (2, 0), some (0, i), some (0, b), some (0, c)] [(0, (zb (0 ≤ i ∧ i < mem 3 1)))] mem _
  refine zV_ifb_ne d_Cp_move_8 (fun c8 => ?_) (fun c8 => ?_)
  · refine zV_iload_n d_Cp_move_14 rfl ?_
    refine zS_invsE (mt' := m_Cp_isNear) (avs := [(0, b)]) (st := []) d_Cp_move_15 l_Cp_196 k_Cp_isNear rfl rfl rfl rfl (s_Cp_isNear mem b (by omega)) ?_
    show zS zT m_Cp_move (0, 0) 18 [some (2, 0), some (0, i), some (0, b), some (0, c)] [(0, (zb (-9 ≤ b ∧ b ≤ 9)))] mem _
    refine zV_ifb_eq d_Cp_move_18 (fun c18 => ?_) (fun c18 => ?_)
    · refine zV_bipush d_Cp_move_28 ?_
      exact zS_iret d_Cp_move_30 rfl ⟨Nat.zero_le _, Nat.zero_le _⟩ (Or.inr (Or.inl ⟨by omega, by omega, rfl, rfl⟩))
    · refine zV_iload_n d_Cp_move_21 rfl ?_
      refine zS_invsE (mt' := m_Cp_isNear) (avs := [(0, c)]) (st := []) d_Cp_move_22 l_Cp_196 k_Cp_isNear rfl rfl rfl rfl (s_Cp_isNear mem c (by omega)) ?_
      show zS zT m_Cp_move (0, 0) 25 [some (2, 0), some (0, i), some (0, b), some (0, c)] [(0, (zb (-9 ≤ c ∧ c ≤ 9)))] mem _
      refine zV_ifb_ne d_Cp_move_25 (fun c25 => ?_) (fun c25 => ?_)
      · refine zV_aload_n d_Cp_move_31 rfl ?_
        refine zS_getr (r := 3) d_Cp_move_32 f_Cp_19 rfl rfl rfl ?_
        refine zS_getr (r := 4) d_Cp_move_35 f_Cp_126 rfl rfl rfl ?_
        refine zV_iload_n d_Cp_move_38 rfl ?_
        refine zS_ald15 (r := (3 + 2 + i)) d_Cp_move_39 rfl rfl ⟨by omega, by omega⟩ (by omega) ?_
        refine zV_iload_n d_Cp_move_40 rfl ?_
        refine zS_puti d_Cp_move_41 f_Cp_135 (kRwc (Or.inl rfl) (by omega) (by omega)) ⟨rfl, rfl⟩ rfl ?_
        refine zV_aload_n d_Cp_move_44 rfl ?_
        refine zS_getr (r := 3) d_Cp_move_45 f_Cp_19 rfl rfl rfl ?_
        refine zS_getr (r := 4) d_Cp_move_48 f_Cp_126 rfl rfl rfl ?_
        refine zV_iload_n d_Cp_move_51 rfl ?_
        refine zS_ald15 (r := (3 + 2 + i)) d_Cp_move_52 rfl rfl ⟨by omega, by omega⟩ (by omega) ?_
        refine zV_iload_n d_Cp_move_53 rfl ?_
        refine zS_puti d_Cp_move_54 f_Cp_138 (kRwc (Or.inl rfl) (by omega) (by omega)) ⟨rfl, rfl⟩ rfl ?_
        refine zV_aload_n d_Cp_move_57 rfl ?_
        refine zS_getr (r := 31) d_Cp_move_58 f_Cp_42 rfl rfl rfl ?_
        refine zV_aload_n d_Cp_move_61 rfl ?_
        refine zS_getr (r := 3) d_Cp_move_62 f_Cp_19 rfl rfl rfl ?_
        refine zS_invv (mt' := m_St_build) (avs := [(2, 3)]) (st := []) d_Cp_move_65 l_Cp_119 k_St_build rfl rfl rfl rfl rfl (s_St_build (zup (zup mem (3 + 2 + i) 1 b) (3 + 2 + i) 2 c) 31 3 (Or.inl rfl) (Or.inl rfl) (up_K (up_K hK (by omega) (by omega)) (by omega) (by omega)) (hI2 (by omega) (by omega)).1 (hI2 (by omega) (by omega)).2.1 (hI2 (by omega) (by omega)).2.2) (fun r9 m9 hq9 => ?_)
        obtain ⟨rfl, hb9⟩ := hq9
        obtain ⟨hD9, hF9⟩ := bld_fin (up_K (up_K hK (by omega) (by omega)) (by omega) (by omega)) (hI2 (by omega) (by omega)) hb9
        show zS zT m_Cp_move (0, 0) 68 [some (2, 0), some (0, i), some (0, b), some (0, c)] [] m9 _
        refine zV_aload_n d_Cp_move_68 rfl ?_
        refine zS_getr (r := 31) d_Cp_move_69 f_Cp_42 rfl rfl rfl ?_
        refine zS_invvE (mt' := m_St_cells) (avs := []) (st := []) d_Cp_move_72 l_Cp_203 k_St_cells rfl rfl rfl rfl rfl (s_St_cells m9 31 (Or.inl rfl) (okT_St hD9)) ?_
        show zS zT m_Cp_move (0, 0) 75 [some (2, 0), some (0, i), some (0, b), some (0, c)] [(0, (m9 31 2 + 2 * scS m9 31))] m9 _
        exact zS_iret d_Cp_move_75 rfl ⟨Nat.zero_le _, Nat.zero_le _⟩ (Or.inr (Or.inr ⟨by omega, by omega, rfl, hD9, hF9⟩))
      · refine zV_bipush d_Cp_move_28 ?_
        exact zS_iret d_Cp_move_30 rfl ⟨Nat.zero_le _, Nat.zero_le _⟩ (Or.inr (Or.inl ⟨by omega, by omega, rfl, rfl⟩))
  · refine zV_bipush d_Cp_move_11 ?_
    exact zS_iret d_Cp_move_13 rfl ⟨Nat.zero_le _, Nat.zero_le _⟩ (Or.inl ⟨by omega, rfl, rfl⟩)
