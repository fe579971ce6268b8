/-! mirror -/
theorem toC_o {m : zMem} {x a : Int} (h : a ≠ x) : toC m x a = m a := by
  unfold toC
  split
  · rw [zup_a h, zup_a h]
  · rw [zup_a h]
theorem toC_c {m m0 : zMem} {x : Int} (h : m x = m0 x) : toC m x x = toC m0 x x := by
  unfold toC
  rw [h]
  split <;> simp only [zup_f, h]
theorem toC_v {m : zMem} {x : Int} : toC m x x 0 = m x 0 ∧ toC m x x 1 = -m x 1 ∧ (toC m x x 2 = m x 2 ∨ toC m x x 2 = -m x 2) := by
  unfold toC
  split
  · simp only [zup_f]
    exact ⟨rfl, rfl, Or.inr rfl⟩
  · simp only [zup_f]
    exact ⟨rfl, rfl, Or.inl rfl⟩
def miW (mem : zMem) (c : Int) (m : zMem) : Prop := (∀ a, (a < 3 + 2 ∨ 3 + 2 + c ≤ a) → m a = mem a) ∧ ∀ l, 0 ≤ l → l < c → m (3 + 2 + l) = toC mem (3 + 2 + l) (3 + 2 + l)
theorem miW_s {mem m : zMem} {c : Int} (h : miW mem c m) (hc : 0 ≤ c) : miW mem (c + 1) (toC m (3 + 2 + c)) := by
  obtain ⟨h1, h2⟩ := h
  refine ⟨fun a ha => by rw [toC_o (by omega)]; exact h1 a (by omega), fun l q1 q2 => ?_⟩
  by_cases e : l = c
  · rw [e]
    exact toC_c (h1 _ (by omega))
  · rw [toC_o (by omega)]
    exact h2 l q1 (by omega)
theorem miW_K {mem m : zMem} (hK : rwK mem 3) (h : miW mem (mem 3 1) m) : rwK m 3 := by
  have e3 : m 3 = mem 3 := h.1 3 (by omega)
  refine ⟨by rw [e3]; exact hK.1, fun k q1 q2 => ?_⟩
  rw [e3] at q2
  have hk := hK.2 k q1 q2
  rw [h.2 k q1 q2]
  obtain ⟨v0, v1, v2⟩ := toC_v (m := mem) (x := 3 + 2 + k)
  rw [v0, v1]
  refine ⟨hk.1, by omega, ?_⟩
  rcases v2 with v | v <;> rw [v] <;> omega
theorem miW_I {mem m : zMem} (hK : rwK mem 3) (hI : okI mem 31) (h : miW mem (mem 3 1) m) : okI m 31 := by
  have hn := hK.1
  exact okI_fr (fun x q1 q2 => h.1 x (by omega)) hI
theorem s_Cp_mirror_l (mem : zMem) (hI : okI mem 31) (hK : rwK mem 3) (hne : mem 3 1 ≠ 0) : ∀ (c : Int) (m : zMem), (0 ≤ c ∧ c ≤ mem 3 1) → (miW mem c m) → zS zT m_Cp_mirror (0, 0) 15 [some (2, 0), some (0, c)] [] m (zQs (fun r m => (mem 3 1 = 0 ∧ r = some (0, -103) ∧ m = mem) ∨ (mem 3 1 ≠ 0 ∧ r = some (0, m 31 2 + 2 * scS m 31) ∧ ∃ m1, miW mem (mem 3 1) m1 ∧ BLT m1 m))) := by
  intro c m
  obtain ⟨k9, hk9⟩ : ∃ kq : Nat, (mem 3 1 - c).toNat = kq := ⟨_, rfl⟩
  induction k9 using Nat.strongRecOn generalizing c m with
  | _ k9 ih =>
    intro i0 i1
    have k1 := hK.1
    have e3 : m 3 1 = mem 3 1 := by rw [i1.1 3 (by omega)]
    have hfi : c = mem 3 1 → miW mem (mem 3 1) m := fun q => by rw [← q]; exact i1
    refine zV_iload_n d_Cp_mirror_15 rfl ?_
    refine zV_aload_n d_Cp_mirror_16 rfl ?_
    refine zS_getr (r := 3) d_Cp_mirror_17 f_Cp_19 rfl rfl rfl ?_
    refine zS_get d_Cp_mirror_20 f_Cp_106 rfl rfl ?_
    refine zV_icmp_ge d_Cp_mirror_23 (by omega) (by omega) (fun c23 => ?_) (fun c23 => ?_)
    · refine zV_aload_n d_Cp_mirror_44 rfl ?_
      refine zS_getr (r := 31) d_Cp_mirror_45 f_Cp_42 rfl rfl rfl ?_
      refine zV_aload_n d_Cp_mirror_48 rfl ?_
      refine zS_getr (r := 3) d_Cp_mirror_49 f_Cp_19 rfl rfl rfl ?_
      refine zS_invv (mt' := m_St_build) (avs := [(2, 3)]) (st := []) d_Cp_mirror_52 l_Cp_119 k_St_build rfl rfl rfl rfl rfl (s_St_build m 31 3 (Or.inl rfl) (Or.inl rfl) (miW_K hK (hfi (by omega))) (miW_I hK hI (hfi (by omega))).1 (miW_I hK hI (hfi (by omega))).2.1 (miW_I hK hI (hfi (by omega))).2.2) (fun r9 m9 hq9 => ?_)
      obtain ⟨rfl, hb9⟩ := hq9
      obtain ⟨hD9, hF9⟩ := bld_fin (miW_K hK (hfi (by omega))) (miW_I hK hI (hfi (by omega))) hb9
      show zS zT m_Cp_mirror (0, 0) 55 [some (2, 0), some (0, c)] [] m9 _
      refine zV_aload_n d_Cp_mirror_55 rfl ?_
      refine zS_getr (r := 31) d_Cp_mirror_56 f_Cp_42 rfl rfl rfl ?_
      refine zS_invvE (mt' := m_St_cells) (avs := []) (st := []) d_Cp_mirror_59 l_Cp_203 k_St_cells rfl rfl rfl rfl rfl (s_St_cells m9 31 (Or.inl rfl) (okT_St hD9)) ?_
      show zS zT m_Cp_mirror (0, 0) 62 [some (2, 0), some (0, c)] [(0, (m9 31 2 + 2 * scS m9 31))] m9 _
      exact zS_iret d_Cp_mirror_62 rfl ⟨Nat.zero_le _, Nat.zero_le _⟩ (Or.inr ⟨hne, rfl, m, hfi (by omega), hD9, hF9⟩)
    · refine zV_aload_n d_Cp_mirror_26 rfl ?_
      refine zS_getr (r := 3) d_Cp_mirror_27 f_Cp_19 rfl rfl rfl ?_
      refine zS_getr (r := 4) d_Cp_mirror_30 f_Cp_126 rfl rfl rfl ?_
      refine zV_iload_n d_Cp_mirror_33 rfl ?_
      refine zS_ald15 (r := (3 + 2 + c)) d_Cp_mirror_34 rfl rfl ⟨by omega, by omega⟩ (by omega) ?_
      refine zS_invvE (mt' := m_Cu_turnOver) (avs := []) (st := []) d_Cp_mirror_35 l_Cp_206 k_Cu_turnOver (kRwc (Or.inl rfl) (by omega) (by omega)) rfl rfl rfl rfl (s_Cu_turnOver m (3 + 2 + c) (kRwc (Or.inl rfl) (by omega) (by omega)) (by rw [i1.1 (3 + 2 + c) (by omega)]; exact (hK.2 c i0.1 (by omega)).1)) ?_
      show zS zT m_Cp_mirror (0, 0) 38 [some (2, 0), some (0, c)] [] (toC m (3 + 2 + c)) _
      refine zV_iinc (L' := [some (2, 0), some (0, (c + 1))]) d_Cp_mirror_38 (by decide) rfl rfl ?_
      refine zV_goto d_Cp_mirror_41 ?_
      exact ih _ (by omega) (c + 1) _ rfl (by omega) (miW_s i1 i0.1)
theorem s_Cp_mirror (mem : zMem) (hI : okI mem 31) (hK : rwK mem 3) : zF m_Cp_mirror [(2, 0)] mem (fun r m => (mem 3 1 = 0 ∧ r = some (0, -103) ∧ m = mem) ∨ (mem 3 1 ≠ 0 ∧ r = some (0, m 31 2 + 2 * scS m 31) ∧ ∃ m1, miW mem (mem 3 1) m1 ∧ BLT m1 m)) := by
  have k1 := hK.1
  refine zF_of (by decide) (Nat.le_of_ble_eq_true rfl) ?_
  show zS zT m_Cp_mirror (0, 0) 0 [some (2, 0), none] [] mem _
  refine zV_aload_n d_Cp_mirror_0 rfl ?_
  refine zS_getr (r := 3) d_Cp_mirror_1 f_Cp_19 rfl rfl rfl ?_
  refine zS_get d_Cp_mirror_4 f_Cp_106 rfl rfl ?_
  refine zV_if_ne d_Cp_mirror_7 (by omega) (fun c7 => ?_) (fun c7 => ?_)
  · refine zV_iconst d_Cp_mirror_13 ?_
    refine zV_istore_n (L' := [some (2, 0), some (0, 0)]) d_Cp_mirror_14 (by decide) rfl ?_
    exact s_Cp_mirror_l mem hI hK (by omega) 0 mem ⟨by omega, by omega⟩ ⟨fun _ _ => rfl, fun l q1 q2 => by omega⟩
  · refine zV_bipush d_Cp_mirror_10 ?_
    exact zS_iret d_Cp_mirror_12 rfl ⟨Nat.zero_le _, Nat.zero_le _⟩ (Or.inl ⟨by omega, rfl, rfl⟩)
