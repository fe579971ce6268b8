/-! rows: what removing and copying leave; take -/
theorem cpC_o {m : zMem} {x y a : Int} (h : a ≠ x) : cpC m x y a = m a := wrC_o h
theorem cpC_v {m : zMem} {x y k : Int} (hk : 0 ≤ k ∧ k ≤ 3) : cpC m x y x k = m y k := by
  have h4 : k = 0 ∨ k = 1 ∨ k = 2 ∨ k = 3 := by omega
  unfold cpC wrC
  simp only [zup_f]
  rcases h4 with rfl | rfl | rfl | rfl <;> rfl
theorem rm_v {mem : zMem} {t i : Int} (hi : 0 ≤ i ∧ i < mem t 1) : rmR mem t i t 1 = mem t 1 - 1 ∧ (∀ a, a ≠ t → (a < t + 2 + i ∨ t + 2 + (mem t 1 - 1) ≤ a) → rmR mem t i a = mem a) ∧ ∀ l, i ≤ l → l < mem t 1 - 1 → ∀ k, 0 ≤ k ∧ k ≤ 3 → rmR mem t i (t + 2 + l) k = mem (t + 2 + (l + 1)) k := by
  have hv := zfo_inv (f := fun j m => cpC m (t + 2 + j) (t + 2 + (j + 1))) (fun j m => (∀ a, (a < t + 2 + i ∨ t + 2 + j ≤ a) → m a = mem a) ∧ ∀ l, i ≤ l → l < j → ∀ k, 0 ≤ k ∧ k ≤ 3 → m (t + 2 + l) k = mem (t + 2 + (l + 1)) k) (mem t 1 - 1 - i).toNat i mem ⟨fun _ _ => rfl, fun l q1 q2 => by omega⟩ (fun j m q1 q2 h => by
    obtain ⟨h1, h2⟩ := h
    refine ⟨fun a ha => by rw [cpC_o (by omega)]; exact h1 a (by omega), fun l y1 y2 k hk => ?_⟩
    by_cases e : l = j
    · rw [e, cpC_v hk, h1 _ (by omega)]
    · rw [cpC_o (by omega)]
      exact h2 l y1 (by omega) k hk)
  rw [show i + ((mem t 1 - 1 - i).toNat : Int) = mem t 1 - 1 by omega] at hv
  obtain ⟨v1, v2⟩ := hv
  unfold rmR
  refine ⟨zup_s, fun a h1 h2 => by rw [zup_a h1]; exact v1 a h2, fun l q1 q2 k hk => ?_⟩
  rw [zup_a (by omega)]
  exact v2 l q1 q2 k hk
theorem rm_K {mem : zMem} {i : Int} (hK : rwK mem 3) (hi : 0 ≤ i ∧ i < mem 3 1) : rwK (rmR mem 3 i) 3 := by
  obtain ⟨v1, v2, v3⟩ := rm_v hi
  have hn := hK.1
  refine ⟨by omega, fun j q1 q2 => ?_⟩
  by_cases e : j < i
  · rw [v2 _ (by omega) (by omega)]
    exact hK.2 j q1 (by omega)
  · have z := v3 j (by omega) (by omega)
    rw [z 0 (by decide), z 1 (by decide), z 2 (by decide)]
    exact hK.2 (j + 1) (by omega) (by omega)
theorem cp_v {mem : zMem} {t o : Int} (h : isRw t) (h2 : isRw o) (hto : t ≠ o) (hn : 0 ≤ mem o 1 ∧ mem o 1 ≤ 4) : cpR mem t o t 1 = mem o 1 ∧ (∀ a, a ≠ t → (a < t + 2 ∨ t + 2 + mem o 1 ≤ a) → cpR mem t o a = mem a) ∧ ∀ l, 0 ≤ l → l < mem o 1 → ∀ k, 0 ≤ k ∧ k ≤ 3 → cpR mem t o (t + 2 + l) k = mem (o + 2 + l) k := by
  have t9 : t = 3 ∨ t = 9 ∨ t = 15 := h
  have o9 : o = 3 ∨ o = 9 ∨ o = 15 := h2
  have hv := zfo_inv (f := fun j m => cpC m (t + 2 + j) (o + 2 + j)) (fun j m => (∀ a, (a < t + 2 ∨ t + 2 + j ≤ a) → m a = mem a) ∧ ∀ l, 0 ≤ l → l < j → ∀ k, 0 ≤ k ∧ k ≤ 3 → m (t + 2 + l) k = mem (o + 2 + l) k) (mem o 1 - 0).toNat 0 mem ⟨fun _ _ => rfl, fun l q1 q2 => by omega⟩ (fun j m q1 q2 h => by
    obtain ⟨h1, h2⟩ := h
    refine ⟨fun a ha => by rw [cpC_o (by omega)]; exact h1 a (by omega), fun l y1 y2 k hk => ?_⟩
    by_cases e : l = j
    · rw [e, cpC_v hk, h1 _ (by omega)]
    · rw [cpC_o (by omega)]
      exact h2 l y1 (by omega) k hk)
  rw [show 0 + ((mem o 1 - 0).toNat : Int) = mem o 1 by omega] at hv
  obtain ⟨v1, v2⟩ := hv
  unfold cpR
  refine ⟨zup_s, fun a y1 y2 => by rw [zup_a y1]; exact v1 a y2, fun l q1 q2 k hk => ?_⟩
  rw [zup_a (by omega)]
  exact v2 l q1 q2 k hk
theorem s_Cp_take (mem : zMem) (i : Int) (hi : I32 i) (hI : okI mem 31) (hK : rwK mem 3) : zF m_Cp_take [(2, 0), (0, i)] mem (fun r m => (¬ (0 ≤ i ∧ i < mem 3 1) ∧ r = some (0, -101) ∧ m = mem) ∨ ((0 ≤ i ∧ i < mem 3 1) ∧ mem 3 1 = 1 ∧ r = some (0, -103) ∧ m = mem) ∨ ((0 ≤ i ∧ i < mem 3 1) ∧ mem 3 1 ≠ 1 ∧ r = some (0, mem (3 + 2 + i) 3) ∧ BLT (rmR mem 3 i) m)) := by
  have k1 := hK.1
  have hI2 : 0 ≤ i ∧ i < mem 3 1 → okI (rmR mem 3 i) 31 := fun q => okI_fr (fun x q1 q2 => (rm_v q).2.1 x (by omega) (by omega)) hI
  refine zF_of (by decide) (Nat.le_of_ble_eq_true rfl) ?_
  show zS zT m_Cp_take (0, 0) 0 [some (2, 0), some (0, i), none] [] mem _
  refine zV_aload_n d_Cp_take_0 rfl ?_
  refine zS_getr (r := 3) d_Cp_take_1 f_Cp_19 rfl rfl rfl ?_
  refine zV_iload_n d_Cp_take_4 rfl ?_
  refine zS_invvE (mt' := m_Rw_has) (avs := [(0, i)]) (st := []) d_Cp_take_5 l_Cp_123 k_Rw_has rfl rfl rfl rfl rfl (s_Rw_has mem 3 i (Or.inl rfl) (by omega) (by omega)) ?_
  show zS zT m_Cp_take (0, 0) 8 [some (2, 0), some (0, i), none] [(0, (zb (0 ≤ i ∧ i < mem 3 1)))] mem _
  refine zV_ifb_ne d_Cp_take_8 (fun c8 => ?_) (fun c8 => ?_)
  · refine zV_aload_n d_Cp_take_14 rfl ?_
    refine zS_getr (r := 3) d_Cp_take_15 f_Cp_19 rfl rfl rfl ?_
    refine zS_get d_Cp_take_18 f_Cp_106 rfl rfl ?_
    refine zV_iconst d_Cp_take_21 ?_
    refine zV_icmp_ne d_Cp_take_22 (by omega) (by omega) (fun c22 => ?_) (fun c22 => ?_)
    · refine zV_aload_n d_Cp_take_28 rfl ?_
      refine zS_getr (r := 3) d_Cp_take_29 f_Cp_19 rfl rfl rfl ?_
      refine zS_getr (r := 4) d_Cp_take_32 f_Cp_126 rfl rfl rfl ?_
      refine zV_iload_n d_Cp_take_35 rfl ?_
      refine zS_ald15 (r := (3 + 2 + i)) d_Cp_take_36 rfl rfl ⟨by omega, by omega⟩ (by omega) ?_
      refine zS_get d_Cp_take_37 f_Cp_141 (kRwc (Or.inl rfl) (by omega) (by omega)) rfl ?_
      refine zV_istore_n (L' := [some (2, 0), some (0, i), some (0, (mem (3 + 2 + i) 3))]) d_Cp_take_40 (by decide) rfl ?_
      refine zV_aload_n d_Cp_take_41 rfl ?_
      refine zS_getr (r := 3) d_Cp_take_42 f_Cp_19 rfl rfl rfl ?_
      refine zV_iload_n d_Cp_take_45 rfl ?_
      refine zS_invvE (mt' := m_Rw_remove) (avs := [(0, i)]) (st := []) d_Cp_take_46 l_Cp_199 k_Rw_remove rfl rfl rfl rfl rfl (s_Rw_remove mem 3 i (Or.inl rfl) (by omega) (by omega)) ?_
      show zS zT m_Cp_take (0, 0) 49 [some (2, 0), some (0, i), some (0, (mem (3 + 2 + i) 3))] [] (rmR mem 3 i) _
      refine zV_aload_n d_Cp_take_49 rfl ?_
      refine zS_getr (r := 31) d_Cp_take_50 f_Cp_42 rfl rfl rfl ?_
      refine zV_aload_n d_Cp_take_53 rfl ?_
      refine zS_getr (r := 3) d_Cp_take_54 f_Cp_19 rfl rfl rfl ?_
      refine zS_invv (mt' := m_St_build) (avs := [(2, 3)]) (st := []) d_Cp_take_57 l_Cp_119 k_St_build rfl rfl rfl rfl rfl (s_St_build (rmR mem 3 i) 31 3 (Or.inl rfl) (Or.inl rfl) (rm_K hK (by omega)) (hI2 (by omega)).1 (hI2 (by omega)).2.1 (hI2 (by omega)).2.2) (fun r9 m9 hq9 => ?_)
      obtain ⟨rfl, hb9⟩ := hq9
      obtain ⟨hD9, hF9⟩ := bld_fin (rm_K hK (by omega)) (hI2 (by omega)) hb9
      show zS zT m_Cp_take (0, 0) 60 [some (2, 0), some (0, i), some (0, (mem (3 + 2 + i) 3))] [] m9 _
      refine zV_iload_n d_Cp_take_60 rfl ?_
      exact zS_iret d_Cp_take_61 rfl ⟨Nat.zero_le _, Nat.zero_le _⟩ (Or.inr (Or.inr ⟨by omega, by omega, rfl, hD9, hF9⟩))
    · refine zV_bipush d_Cp_take_25 ?_
      exact zS_iret d_Cp_take_27 rfl ⟨Nat.zero_le _, Nat.zero_le _⟩ (Or.inr (Or.inl ⟨by omega, by omega, rfl, rfl⟩))
  · refine zV_bipush d_Cp_take_11 ?_
    exact zS_iret d_Cp_take_13 rfl ⟨Nat.zero_le _, Nat.zero_le _⟩ (Or.inl ⟨by omega, rfl, rfl⟩)
