/-! image and restore -/
theorem cps_v {mem : zMem} {t o : Int} (h : isSe t) (h2 : isSe o) (hto : t ≠ o) (hn : 0 ≤ mem o 4 ∧ mem o 4 ≤ 6) : cpS mem t o t 4 = mem o 4 ∧ (∀ a, (a < t ∨ t + 4 < a) → cpS mem t o a = mem a) ∧ ∀ l, 0 ≤ l → l < mem o 4 → cpS mem t o (t + 1) l = mem (o + 1) l ∧ cpS mem t o (t + 2) l = mem (o + 2) l ∧ cpS mem t o (t + 3) l = mem (o + 3) l ∧ cpS mem t o (t + 4) l = mem (o + 4) l := by
  have t9 : t = 21 ∨ t = 26 := h
  have o9 : o = 21 ∨ o = 26 := h2
  have hv := zfo_inv (f := fun j m => cpS1 m t o j) (fun j m => (∀ a, (a ≤ t ∨ t + 4 < a) → m a = mem a) ∧ ∀ l, 0 ≤ l → l < j → m (t + 1) l = mem (o + 1) l ∧ m (t + 2) l = mem (o + 2) l ∧ m (t + 3) l = mem (o + 3) l ∧ m (t + 4) l = mem (o + 4) l) (mem o 4 - 0).toNat 0 mem ⟨fun _ _ => rfl, fun l q1 q2 => by omega⟩ (fun j m q1 q2 h => by
    obtain ⟨h1, h2⟩ := h
    refine ⟨fun a ha => by unfold cpS1; rw [zup_a (by omega), zup_a (by omega), zup_a (by omega), zup_a (by omega)]; exact h1 a ha, fun l y1 y2 => ?_⟩
    unfold cpS1
    rw [zup_a (show t + 1 ≠ t + 4 by omega), zup_a (show t + 1 ≠ t + 3 by omega), zup_a (show t + 1 ≠ t + 2 by omega), zup_a (show t + 2 ≠ t + 4 by omega), zup_a (show t + 2 ≠ t + 3 by omega), zup_a (show t + 3 ≠ t + 4 by omega)]
    simp only [zup_f]
    by_cases e : l = j
    · rw [e, uf_s, uf_s, uf_s, uf_s, h1 (o + 1) (by omega), h1 (o + 2) (by omega), h1 (o + 3) (by omega), h1 (o + 4) (by omega)]
      exact ⟨rfl, rfl, rfl, rfl⟩
    · rw [uf_n e, uf_n e, uf_n e, uf_n e, zup_a (by omega), zup_a (by omega), zup_a (by omega), zup_a (by omega), zup_a (by omega), zup_a (by omega)]
      exact h2 l y1 (by omega))
  rw [show 0 + ((mem o 4 - 0).toNat : Int) = mem o 4 by omega] at hv
  obtain ⟨v1, v2⟩ := hv
  unfold cpS
  refine ⟨zup_s, fun a ha => by rw [zup_a (by omega)]; exact v1 a (by omega), fun l q1 q2 => ?_⟩
  rw [zup_a (by omega), zup_a (by omega), zup_a (by omega), zup_a (by omega)]
  exact v2 l q1 q2
theorem s_Cp_image (mem : zMem) (hr : 0 ≤ mem 3 1 ∧ mem 3 1 ≤ 4) (hs : 0 ≤ mem 21 4 ∧ mem 21 4 ≤ 6) : zF m_Cp_image [(2, 0)] mem (fun r m => (mem 3 1 = 0 ∧ r = some (0, -103) ∧ m = mem) ∨ (mem 3 1 ≠ 0 ∧ r = some (0, mem 3 1) ∧ m = zup (cpS (cpR mem 9 3) 26 21) 0 12 1)) := by
  have c1 := cp_v (mem := mem) (t := 9) (o := 3) (Or.inr (Or.inl rfl)) (Or.inl rfl) (by decide) hr
  have hs1 : 0 ≤ cpR mem 9 3 21 4 ∧ cpR mem 9 3 21 4 ≤ 6 := by rw [c1.2.1 21 (by decide) (by omega)]; exact hs
  have c2 := cps_v (mem := cpR mem 9 3) (t := 26) (o := 21) (Or.inr rfl) (Or.inl rfl) (by decide) hs1
  have e3 : cpS (cpR mem 9 3) 26 21 3 1 = mem 3 1 := by rw [c2.2.1 3 (by omega), c1.2.1 3 (by decide) (by omega)]
  refine zF_of (by decide) (Nat.le_of_ble_eq_true rfl) ?_
  show zS zT m_Cp_image (0, 0) 0 [some (2, 0)] [] mem _
  refine zV_aload_n d_Cp_image_0 rfl ?_
  refine zS_getr (r := 3) d_Cp_image_1 f_Cp_19 rfl rfl rfl ?_
  refine zS_get d_Cp_image_4 f_Cp_106 rfl rfl ?_
  refine zV_if_ne d_Cp_image_7 (by omega) (fun c7 => ?_) (fun c7 => ?_)
  · refine zV_aload_n d_Cp_image_13 rfl ?_
    refine zS_getr (r := 9) d_Cp_image_14 f_Cp_23 rfl rfl rfl ?_
    refine zV_aload_n d_Cp_image_17 rfl ?_
    refine zS_getr (r := 3) d_Cp_image_18 f_Cp_19 rfl rfl rfl ?_
    refine zS_invvE (mt' := m_Rw_copy) (avs := [(2, 3)]) (st := []) d_Cp_image_21 l_Cp_228 k_Rw_copy rfl rfl rfl rfl rfl (s_Rw_copy mem 9 3 (Or.inr (Or.inl rfl)) (Or.inl rfl) (by decide) hr) ?_
    show zS zT m_Cp_image (0, 0) 24 [some (2, 0)] [] (cpR mem 9 3) _
    refine zV_aload_n d_Cp_image_24 rfl ?_
    refine zS_getr (r := 26) d_Cp_image_25 f_Cp_36 rfl rfl rfl ?_
    refine zV_aload_n d_Cp_image_28 rfl ?_
    refine zS_getr (r := 21) d_Cp_image_29 f_Cp_32 rfl rfl rfl ?_
    refine zS_invvE (mt' := m_Se_copy) (avs := [(2, 21)]) (st := []) d_Cp_image_32 l_Cp_241 k_Se_copy rfl rfl rfl rfl rfl (s_Se_copy (cpR mem 9 3) 26 21 (Or.inr rfl) (Or.inl rfl) (by decide) hs1) ?_
    show zS zT m_Cp_image (0, 0) 35 [some (2, 0)] [] (cpS (cpR mem 9 3) 26 21) _
    refine zV_aload_n d_Cp_image_35 rfl ?_
    refine zV_iconst d_Cp_image_36 ?_
    refine zS_putz d_Cp_image_37 f_Cp_77 rfl ⟨rfl, rfl⟩ rfl (Or.inr rfl) ?_
    refine zV_aload_n d_Cp_image_40 rfl ?_
    refine zS_getr (r := 3) d_Cp_image_41 f_Cp_19 rfl rfl rfl ?_
    refine zS_get d_Cp_image_44 f_Cp_106 rfl rfl ?_
    rw [show (zup (cpS (cpR mem 9 3) 26 21) 0 12 1) 3 1 = ((cpS (cpR mem 9 3) 26 21) 3 1) from zup_c (by omega)]
    exact zS_iret d_Cp_image_47 rfl ⟨Nat.zero_le _, Nat.zero_le _⟩ (Or.inr ⟨by omega, by rw [e3], rfl⟩)
  · refine zV_bipush d_Cp_image_10 ?_
    exact zS_iret d_Cp_image_12 rfl ⟨Nat.zero_le _, Nat.zero_le _⟩ (Or.inl ⟨by omega, rfl, rfl⟩)
theorem s_Cp_restore (mem : zMem) (h12 : mem 0 12 = 0 ∨ mem 0 12 = 1) (hK : rwK mem 9) (hI : okI mem 31) (hs : 0 ≤ mem 26 4 ∧ mem 26 4 ≤ 6) : zF m_Cp_restore [(2, 0)] mem (fun r m => (mem 0 12 = 0 ∧ r = some (0, -103) ∧ m = mem) ∨ (mem 0 12 = 1 ∧ r = some (0, mem 9 1) ∧ BLT (cpS (cpR mem 3 9) 21 26) m)) := by
  have hr := hK.1
  have c1 := cp_v (mem := mem) (t := 3) (o := 9) (Or.inl rfl) (Or.inr (Or.inl rfl)) (by decide) hr
  have hs1 : 0 ≤ cpR mem 3 9 26 4 ∧ cpR mem 3 9 26 4 ≤ 6 := by rw [c1.2.1 26 (by decide) (by omega)]; exact hs
  have c2 := cps_v (mem := cpR mem 3 9) (t := 21) (o := 26) (Or.inl rfl) (Or.inr rfl) (by decide) hs1
  have e3 : cpS (cpR mem 3 9) 21 26 3 1 = mem 9 1 := by rw [c2.2.1 3 (by omega)]; exact c1.1
  have hK2 : rwK (cpS (cpR mem 3 9) 21 26) 3 := by
    refine ⟨by rw [e3]; exact hr, fun k q1 q2 => ?_⟩
    rw [e3] at q2
    rw [c2.2.1 (3 + 2 + k) (by omega), c1.2.2 k q1 q2 0 (by decide), c1.2.2 k q1 q2 1 (by decide), c1.2.2 k q1 q2 2 (by decide)]
    exact hK.2 k q1 q2
  have hI2 : okI (cpS (cpR mem 3 9) 21 26) 31 := okI_fr (fun x q1 q2 => by rw [c2.2.1 x (by omega), c1.2.1 x (by omega) (by omega)]) hI
  refine zF_of (by decide) (Nat.le_of_ble_eq_true rfl) ?_
  show zS zT m_Cp_restore (0, 0) 0 [some (2, 0)] [] mem _
  refine zV_aload_n d_Cp_restore_0 rfl ?_
  refine zS_get d_Cp_restore_1 f_Cp_77 rfl rfl ?_
  refine zV_if_ne d_Cp_restore_4 (by omega) (fun c4 => ?_) (fun c4 => ?_)
  · refine zV_aload_n d_Cp_restore_10 rfl ?_
    refine zS_getr (r := 3) d_Cp_restore_11 f_Cp_19 rfl rfl rfl ?_
    refine zV_aload_n d_Cp_restore_14 rfl ?_
    refine zS_getr (r := 9) d_Cp_restore_15 f_Cp_23 rfl rfl rfl ?_
    refine zS_invvE (mt' := m_Rw_copy) (avs := [(2, 9)]) (st := []) d_Cp_restore_18 l_Cp_228 k_Rw_copy rfl rfl rfl rfl rfl (s_Rw_copy mem 3 9 (Or.inl rfl) (Or.inr (Or.inl rfl)) (by decide) hr) ?_
    show zS zT m_Cp_restore (0, 0) 21 [some (2, 0)] [] (cpR mem 3 9) _
    refine zV_aload_n d_Cp_restore_21 rfl ?_
    refine zS_getr (r := 21) d_Cp_restore_22 f_Cp_32 rfl rfl rfl ?_
    refine zV_aload_n d_Cp_restore_25 rfl ?_
    refine zS_getr (r := 26) d_Cp_restore_26 f_Cp_36 rfl rfl rfl ?_
    refine zS_invvE (mt' := m_Se_copy) (avs := [(2, 26)]) (st := []) d_Cp_restore_29 l_Cp_241 k_Se_copy rfl rfl rfl rfl rfl (s_Se_copy (cpR mem 3 9) 21 26 (Or.inl rfl) (Or.inr rfl) (by decide) hs1) ?_
    show zS zT m_Cp_restore (0, 0) 32 [some (2, 0)] [] (cpS (cpR mem 3 9) 21 26) _
    refine zV_aload_n d_Cp_restore_32 rfl ?_
    refine zS_getr (r := 31) d_Cp_restore_33 f_Cp_42 rfl rfl rfl ?_
    refine zV_aload_n d_Cp_restore_36 rfl ?_
    refine zS_getr (r := 3) d_Cp_restore_37 f_Cp_19 rfl rfl rfl ?_
    refine zS_invv (mt' := m_St_build) (avs := [(2, 3)]) (st := []) d_Cp_restore_40 l_Cp_119 k_St_build rfl rfl rfl rfl rfl (s_St_build (cpS (cpR mem 3 9) 21 26) 31 3 (Or.inl rfl) (Or.inl rfl) hK2 hI2.1 hI2.2.1 hI2.2.2) (fun r9 m9 hq9 => ?_)
    obtain ⟨rfl, hb9⟩ := hq9
    obtain ⟨hD9, hF9⟩ := bld_fin hK2 hI2 hb9
    show zS zT m_Cp_restore (0, 0) 43 [some (2, 0)] [] m9 _
    refine zV_aload_n d_Cp_restore_43 rfl ?_
    refine zS_getr (r := 3) d_Cp_restore_44 f_Cp_19 rfl rfl rfl ?_
    refine zS_get d_Cp_restore_47 f_Cp_106 rfl rfl ?_
    exact zS_iret d_Cp_restore_50 rfl ⟨Nat.zero_le _, Nat.zero_le _⟩ (Or.inr ⟨by omega, by rw [hF9 3 (by omega), e3], hD9, hF9⟩)
  · refine zV_bipush d_Cp_restore_7 ?_
    exact zS_iret d_Cp_restore_9 rfl ⟨Nat.zero_le _, Nat.zero_le _⟩ (Or.inl ⟨by omega, rfl, rfl⟩)
