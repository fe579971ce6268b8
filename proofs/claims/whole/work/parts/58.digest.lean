/-! digest -/
def okE (m : zMem) : Prop := okT m 31 ∧ (0 ≤ m 3 1 ∧ m 3 1 ≤ 4) ∧ (0 ≤ m 21 4 ∧ m 21 4 ≤ 6) ∧ (0 ≤ m 1 1 ∧ m 1 1 ≤ 24) ∧ (∀ i, 0 ≤ i → i < m 1 1 → 0 ≤ m 2 i ∧ m 2 i ≤ 126) ∧ (0 ≤ m 78 1 ∧ m 78 1 < 8) ∧ (0 ≤ m 78 2 ∧ m 78 2 ≤ 8) ∧ (∀ i, 0 ≤ i → i < 8 → 0 ≤ m 79 i ∧ m 79 i ≤ 1) ∧ I32 (m 0 13) ∧ I32 (m 0 14) ∧ I32 (m 0 15)
theorem scS_r {m : zMem} {t : Int} (h : okT m t) : 0 ≤ scS m t ∧ scS m t ≤ 100 := by
  obtain ⟨_, h2, _, h4, _, _⟩ := h
  have := zsm_b (f := fun s => m (t + 2) s / 2) (B := 4) (m t 2 - 0).toNat 0 (fun j q1 q2 => by have := h4 j q1 (by omega); show 0 ≤ m (t + 2) j / 2 ∧ m (t + 2) j / 2 ≤ 4; omega)
  unfold scS
  omega
theorem cntX_i {m : zMem} (h : okE m) (w : Int) : I32 (cntX m w) := by
  obtain ⟨h1, h2, h3, h4, _, h5, h6, _, h7, h8, h9⟩ := h
  have := scS_r h1
  have t1 := h1.1
  have t2 := h1.2.1
  unfold cntX
  (repeat' split) <;> omega
def dgR (m : zMem) (h : Int) : Int := zfo (fun i h => 31 * h + m 79 ((m 78 1 - 1 - i) % 8)) (m 78 2 - 0).toNat 0 h
def dgP (m : zMem) (h : Int) : Int := zfo (fun i h => 31 * h + m 2 i) (m 1 1 - 0).toNat 0 h
def dgC (m : zMem) (h : Int) : Int := zfo (fun w h => 31 * h + cntX m w) (11 - 0 : Int).toNat 0 h
theorem cntX_fr {m0 m : zMem} (h : ∀ x, (x < 73 ∨ 76 < x) → m x = m0 x) : cntX m = cntX m0 := by
  funext w
  unfold cntX scS
  rw [h 3 (by omega), h 31 (by omega), h (31 + 2) (by omega), h 21 (by omega), h 1 (by omega), h 0 (by omega), h 78 (by omega)]
theorem dg_fr {m0 m : zMem} (h : ∀ x, (x < 73 ∨ 76 < x) → m x = m0 x) (v : Int) : dgC m (dgP m (dgR m v)) = dgC m0 (dgP m0 (dgR m0 v)) := by
  unfold dgC dgP dgR
  rw [cntX_fr h, h 79 (by omega), h 78 (by omega), h 1 (by omega), h 2 (by omega)]
theorem okE_fr {m0 m : zMem} (h : ∀ x, (x < 73 ∨ 76 < x) → m x = m0 x) (hE : okE m0) : okE m := by
  unfold okE okT
  rw [h 79 (by omega), h 78 (by omega), h 1 (by omega), h 2 (by omega), h 3 (by omega), h 31 (by omega), h (31 + 2) (by omega), h (31 + 3) (by omega), h (31 + 4) (by omega), h 21 (by omega), h 0 (by omega)]
  exact hE
theorem cntR_r (D : Int → Prop) (ρ : Int → Int) : 0 ≤ cntR D ρ ∧ cntR D ρ ≤ 225 := by
  have := zsm_r (f := fun x => zb (D x ∧ ρ x = x)) (fun j => by have := zb_01 (D j ∧ ρ j = j); omega) 225 0
  unfold cntR
  omega
theorem s_Cp_digest_106 (m : zMem) (hE : okE m) (q : Int) : ∀ (i : Int) (hh : Int), (0 ≤ i ∧ i ≤ 11) → (zfo (fun w h => 31 * h + cntX m w) (11 - i).toNat i hh = q) → zS zT m_Cp_digest (0, 0) 106 [some (2, 0), some (1, hh), none, some (0, i)] [] m (zQs (fun r m9 => r = some (1, q) ∧ m9 = m)) := by
  intro i hh
  obtain ⟨k9, hk9⟩ : ∃ kq : Nat, (11 - i).toNat = kq := ⟨_, rfl⟩
  induction k9 using Nat.strongRecOn generalizing i hh with
  | _ k9 ih =>
    intro i0 i1
    obtain ⟨h1, h2, h3, h4, h5, h6, h7, h8, h9⟩ := id hE
    refine zV_iload_n d_Cp_digest_106 rfl ?_
    refine zV_bipush d_Cp_digest_107 ?_
    refine zV_icmp_gt d_Cp_digest_109 (by omega) (by omega) (fun c109 => ?_) (fun c109 => ?_)
    · refine zV_lload_n d_Cp_digest_128 rfl ?_
      exact zS_lret d_Cp_digest_129 rfl ⟨Nat.zero_le _, Nat.zero_le _⟩ ⟨by rw [← i1, zfo_e (n := 11) (by omega)], rfl⟩
    · refine zV_lload_n d_Cp_digest_112 rfl ?_
      refine zV_aload_n d_Cp_digest_113 rfl ?_
      refine zV_iload_n d_Cp_digest_114 rfl ?_
      refine zS_invvE (mt' := m_Cp_count) (avs := [(0, i)]) (st := [(1, hh)]) d_Cp_digest_115 l_Cp_270 k_Cp_count rfl rfl rfl rfl rfl (s_Cp_count m i (by omega) h1) ?_
      show zS zT m_Cp_digest (0, 0) 118 [some (2, 0), some (1, hh), none, some (0, i)] [(0, (cntX m i)), (1, hh)] m _
      refine zS_invsE (mt' := m_Cp_mix) (avs := [(1, hh), (0, (cntX m i))]) (st := []) d_Cp_digest_118 l_Cp_263 k_Cp_mix rfl rfl rfl rfl (s_Cp_mix m hh (cntX m i) (cntX_i hE i)) ?_
      show zS zT m_Cp_digest (0, 0) 121 [some (2, 0), some (1, hh), none, some (0, i)] [(1, (31 * hh + (cntX m i)))] m _
      refine zV_lstore_n (L' := [some (2, 0), some (1, (31 * hh + (cntX m i))), none, some (0, i)]) d_Cp_digest_121 (by decide) rfl ?_
      refine zV_iinc (L' := [some (2, 0), some (1, (31 * hh + (cntX m i))), none, some (0, (i + 1))]) d_Cp_digest_122 (by decide) rfl rfl ?_
      refine zV_goto d_Cp_digest_125 ?_
      refine ih _ (by omega) (i + 1) _ rfl (by omega) ?_
      rw [← i1, zfo_s (n := 11) (i := i) (by omega)]
theorem s_Cp_digest_73 (m : zMem) (hE : okE m) (q : Int) : ∀ (i : Int) (hh : Int), (0 ≤ i ∧ i ≤ m 1 1) → (dgC m (zfo (fun i h => 31 * h + m 2 i) (m 1 1 - i).toNat i hh) = q) → zS zT m_Cp_digest (0, 0) 73 [some (2, 0), some (1, hh), none, some (0, i)] [] m (zQs (fun r m9 => r = some (1, q) ∧ m9 = m)) := by
  intro i hh
  obtain ⟨k9, hk9⟩ : ∃ kq : Nat, (m 1 1 - i).toNat = kq := ⟨_, rfl⟩
  induction k9 using Nat.strongRecOn generalizing i hh with
  | _ k9 ih =>
    intro i0 i1
    obtain ⟨h1, h2, h3, h4, h5, h6, h7, h8, h9⟩ := id hE
    have f5 := h5 i i0.1
    refine zV_iload_n d_Cp_digest_73 rfl ?_
    refine zV_aload_n d_Cp_digest_74 rfl ?_
    refine zS_getr (r := 1) d_Cp_digest_75 f_Cp_12 rfl rfl rfl ?_
    refine zS_get d_Cp_digest_78 f_Cp_95 rfl rfl ?_
    refine zV_icmp_ge d_Cp_digest_81 (by omega) (by omega) (fun c81 => ?_) (fun c81 => ?_)
    · refine zV_iconst d_Cp_digest_104 ?_
      refine zV_istore_n (L' := [some (2, 0), some (1, hh), none, some (0, 0)]) d_Cp_digest_105 (by decide) rfl ?_
      rw [zfo_e (n := m 1 1) (by omega)] at i1
      exact s_Cp_digest_106 m hE q 0 hh (by omega) i1
    · refine zV_lload_n d_Cp_digest_84 rfl ?_
      refine zV_aload_n d_Cp_digest_85 rfl ?_
      refine zS_getr (r := 1) d_Cp_digest_86 f_Cp_12 rfl rfl rfl ?_
      refine zS_getr (r := 2) d_Cp_digest_89 f_Cp_267 rfl rfl rfl ?_
      refine zV_iload_n d_Cp_digest_92 rfl ?_
      refine zS_iald d_Cp_digest_93 rfl rfl ⟨by omega, by omega⟩ ?_
      refine zS_invsE (mt' := m_Cp_mix) (avs := [(1, hh), (0, (m 2 i))]) (st := []) d_Cp_digest_94 l_Cp_263 k_Cp_mix rfl rfl rfl rfl (s_Cp_mix m hh (m 2 i) (by omega)) ?_
      show zS zT m_Cp_digest (0, 0) 97 [some (2, 0), some (1, hh), none, some (0, i)] [(1, (31 * hh + (m 2 i)))] m _
      refine zV_lstore_n (L' := [some (2, 0), some (1, (31 * hh + (m 2 i))), none, some (0, i)]) d_Cp_digest_97 (by decide) rfl ?_
      refine zV_iinc (L' := [some (2, 0), some (1, (31 * hh + (m 2 i))), none, some (0, (i + 1))]) d_Cp_digest_98 (by decide) rfl rfl ?_
      refine zV_goto d_Cp_digest_101 ?_
      refine ih _ (by omega) (i + 1) _ rfl (by omega) ?_
      rw [← i1, zfo_s (n := m 1 1) (i := i) (by omega)]
theorem s_Cp_digest_41 (m : zMem) (hE : okE m) (q : Int) : ∀ (i : Int) (hh : Int), (0 ≤ i ∧ i ≤ m 78 2) → (dgC m (dgP m (zfo (fun i h => 31 * h + m 79 ((m 78 1 - 1 - i) % 8)) (m 78 2 - i).toNat i hh)) = q) → zS zT m_Cp_digest (0, 0) 41 [some (2, 0), some (1, hh), none, some (0, i)] [] m (zQs (fun r m9 => r = some (1, q) ∧ m9 = m)) := by
  intro i hh
  obtain ⟨k9, hk9⟩ : ∃ kq : Nat, (m 78 2 - i).toNat = kq := ⟨_, rfl⟩
  induction k9 using Nat.strongRecOn generalizing i hh with
  | _ k9 ih =>
    intro i0 i1
    obtain ⟨h1, h2, h3, h4, h5, h6, h7, h8, h9⟩ := id hE
    have f8 := h8 ((m 78 1 - 1 - i) % 8) (by omega) (by omega)
    refine zV_iload_n d_Cp_digest_41 rfl ?_
    refine zV_aload_n d_Cp_digest_42 rfl ?_
    refine zS_getr (r := 78) d_Cp_digest_43 f_Cp_73 rfl rfl rfl ?_
    refine zS_get d_Cp_digest_46 f_Cp_237 rfl rfl ?_
    refine zV_icmp_ge d_Cp_digest_49 (by omega) (by omega) (fun c49 => ?_) (fun c49 => ?_)
    · refine zV_iconst d_Cp_digest_71 ?_
      refine zV_istore_n (L' := [some (2, 0), some (1, hh), none, some (0, 0)]) d_Cp_digest_72 (by decide) rfl ?_
      rw [zfo_e (n := m 78 2) (by omega)] at i1
      exact s_Cp_digest_73 m hE q 0 hh (by omega) i1
    · refine zV_lload_n d_Cp_digest_52 rfl ?_
      refine zV_aload_n d_Cp_digest_53 rfl ?_
      refine zS_getr (r := 78) d_Cp_digest_54 f_Cp_73 rfl rfl rfl ?_
      refine zV_iload_n d_Cp_digest_57 rfl ?_
      refine zS_invvE (mt' := m_Ri_back) (avs := [(0, i)]) (st := [(1, hh)]) d_Cp_digest_58 l_Cp_238 k_Ri_back rfl rfl rfl rfl rfl (s_Ri_back m i h6 ⟨by omega, by omega⟩) ?_
      show zS zT m_Cp_digest (0, 0) 61 [some (2, 0), some (1, hh), none, some (0, i)] [(0, (m 79 ((m 78 1 - 1 - i) % 8))), (1, hh)] m _
      refine zS_invsE (mt' := m_Cp_mix) (avs := [(1, hh), (0, (m 79 ((m 78 1 - 1 - i) % 8)))]) (st := []) d_Cp_digest_61 l_Cp_263 k_Cp_mix rfl rfl rfl rfl (s_Cp_mix m hh (m 79 ((m 78 1 - 1 - i) % 8)) (by omega)) ?_
      show zS zT m_Cp_digest (0, 0) 64 [some (2, 0), some (1, hh), none, some (0, i)] [(1, (31 * hh + (m 79 ((m 78 1 - 1 - i) % 8))))] m _
      refine zV_lstore_n (L' := [some (2, 0), some (1, (31 * hh + (m 79 ((m 78 1 - 1 - i) % 8)))), none, some (0, i)]) d_Cp_digest_64 (by decide) rfl ?_
      refine zV_iinc (L' := [some (2, 0), some (1, (31 * hh + (m 79 ((m 78 1 - 1 - i) % 8)))), none, some (0, (i + 1))]) d_Cp_digest_65 (by decide) rfl rfl ?_
      refine zV_goto d_Cp_digest_68 ?_
      refine ih _ (by omega) (i + 1) _ rfl (by omega) ?_
      rw [← i1, zfo_s (n := m 78 2) (i := i) (by omega)]
theorem s_Cp_digest (mem : zMem) (hE : okE mem) (hK : rwK mem 3) (hS : okS mem 21) (hN : nmR mem) (hR : RT mem 31) (hB : hbX mem 31) (pt : Int → Pt) (hP : PTS mem 31 pt) : zF m_Cp_digest [(2, 0)] mem (fun r m => ∃ h, r = some (1, dgC mem (dgP mem (dgR mem h))) ∧ ((mem 3 1 = 0 ∧ h = (mxS mem (mxP mem pt (mxC mem 1433))) ∧ m = mem) ∨ (mem 3 1 ≠ 0 ∧ ∃ n, NM (rdF mem 0 1000) 31 m n ∧ h = 31 * (mxS mem (mxP mem pt (mxC mem 1433))) + n))) := by
  have k1 := hK.1
  refine zF_of (by decide) (Nat.le_of_ble_eq_true rfl) ?_
  show zS zT m_Cp_digest (0, 0) 0 [some (2, 0), none, none, none] [] mem _
  refine zV_aload_n d_Cp_digest_0 rfl ?_
  refine zV_aload_n d_Cp_digest_1 rfl ?_
  refine zV_aload_n d_Cp_digest_2 rfl ?_
  refine zV_ldc2 (a := 1433) d_Cp_digest_3 n_Cp_248 rfl ?_
  refine zS_invvE (mt' := m_Cp_mixCurves) (avs := [(1, 1433)]) (st := [(2, 0), (2, 0)]) d_Cp_digest_6 l_Cp_250 k_Cp_mixCurves rfl rfl rfl rfl rfl (s_Cp_mixCurves mem 1433 hK hS hN) ?_
  show zS zT m_Cp_digest (0, 0) 9 [some (2, 0), none, none, none] [(1, (mxC mem 1433)), (2, 0), (2, 0)] mem _
  refine zS_invvE (mt' := m_Cp_mixPoints) (avs := [(1, (mxC mem 1433))]) (st := [(2, 0)]) d_Cp_digest_9 l_Cp_254 k_Cp_mixPoints rfl rfl rfl rfl rfl (s_Cp_mixPoints mem (mxC mem 1433) hE.1 hR pt hP) ?_
  show zS zT m_Cp_digest (0, 0) 12 [some (2, 0), none, none, none] [(1, (mxP mem pt (mxC mem 1433))), (2, 0)] mem _
  refine zS_invvE (mt' := m_Cp_mixStacks) (avs := [(1, (mxP mem pt (mxC mem 1433)))]) (st := []) d_Cp_digest_12 l_Cp_257 k_Cp_mixStacks rfl rfl rfl rfl rfl (s_Cp_mixStacks mem (mxP mem pt (mxC mem 1433)) hE.1 hK.1) ?_
  show zS zT m_Cp_digest (0, 0) 15 [some (2, 0), none, none, none] [(1, (mxS mem (mxP mem pt (mxC mem 1433))))] mem _
  refine zV_lstore_n (L' := [some (2, 0), some (1, (mxS mem (mxP mem pt (mxC mem 1433)))), none, none]) d_Cp_digest_15 (by decide) rfl ?_
  refine zV_aload_n d_Cp_digest_16 rfl ?_
  refine zS_getr (r := 3) d_Cp_digest_17 f_Cp_19 rfl rfl rfl ?_
  refine zS_get d_Cp_digest_20 f_Cp_106 rfl rfl ?_
  refine zV_if_le d_Cp_digest_23 (by omega) (fun c23 => ?_) (fun c23 => ?_)
  · refine zV_iconst d_Cp_digest_39 ?_
    refine zV_istore_n (L' := [some (2, 0), some (1, (mxS mem (mxP mem pt (mxC mem 1433)))), none, some (0, 0)]) d_Cp_digest_40 (by decide) rfl ?_
    refine zS_mono ?_ (s_Cp_digest_41 mem hE _ 0 _ ⟨by omega, hE.2.2.2.2.2.2.1.1⟩ rfl)
    rintro r m ⟨rfl, rfl⟩
    exact ⟨_, rfl, Or.inl ⟨by omega, rfl, rfl⟩⟩
  · refine zV_lload_n d_Cp_digest_26 rfl ?_
    refine zV_aload_n d_Cp_digest_27 rfl ?_
    refine zV_iconst d_Cp_digest_28 ?_
    refine zV_sipush d_Cp_digest_29 ?_
    refine zS_invv (mt' := m_Cp_pieces) (avs := [(0, 0), (0, 1000)]) (st := [(1, (mxS mem (mxP mem pt (mxC mem 1433))))]) d_Cp_digest_32 l_Cp_260 k_Cp_pieces rfl rfl rfl rfl rfl (s_Cp_pieces mem 0 1000 (by decide) (by decide) hE.1 hB hK.1) (fun r9 m9 hq9 => ?_)
    rcases hq9 with ⟨z, _⟩ | ⟨_, z, _⟩ | ⟨_, _, n9, rfl, hN9⟩
    · exact absurd ⟨Or.inl rfl, (by unfold okF; decide : okF 1000)⟩ z
    · exact absurd z (by omega)
    have hf9 : ∀ x, (x < 73 ∨ 76 < x) → m9 x = mem x := fun x hx => by rw [hN9.1 x (by omega) (by omega), rdF_o (by omega)]
    have hn9 : 0 ≤ n9 ∧ n9 ≤ 225 := by obtain ⟨_, ρ, rfl, _⟩ := hN9; exact cntR_r _ _
    show zS zT m_Cp_digest (0, 0) 35 [some (2, 0), some (1, (mxS mem (mxP mem pt (mxC mem 1433)))), none, none] [(0, n9), (1, (mxS mem (mxP mem pt (mxC mem 1433))))] m9 _
    refine zS_invsE (mt' := m_Cp_mix) (avs := [(1, (mxS mem (mxP mem pt (mxC mem 1433)))), (0, n9)]) (st := []) d_Cp_digest_35 l_Cp_263 k_Cp_mix rfl rfl rfl rfl (s_Cp_mix m9 (mxS mem (mxP mem pt (mxC mem 1433))) n9 (by omega)) ?_
    show zS zT m_Cp_digest (0, 0) 38 [some (2, 0), some (1, (mxS mem (mxP mem pt (mxC mem 1433)))), none, none] [(1, (31 * (mxS mem (mxP mem pt (mxC mem 1433))) + n9))] m9 _
    refine zV_lstore_n (L' := [some (2, 0), some (1, (31 * (mxS mem (mxP mem pt (mxC mem 1433))) + n9)), none, none]) d_Cp_digest_38 (by decide) rfl ?_
    refine zV_iconst d_Cp_digest_39 ?_
    refine zV_istore_n (L' := [some (2, 0), some (1, (31 * (mxS mem (mxP mem pt (mxC mem 1433))) + n9)), none, some (0, 0)]) d_Cp_digest_40 (by decide) rfl ?_
    refine zS_mono ?_ (s_Cp_digest_41 m9 (okE_fr hf9 hE) _ 0 _ ⟨by omega, (okE_fr hf9 hE).2.2.2.2.2.2.1.1⟩ rfl)
    rintro r m ⟨rfl, rfl⟩
    exact ⟨31 * (mxS mem (mxP mem pt (mxC mem 1433))) + n9, by rw [← dg_fr hf9]; rfl, Or.inr ⟨by omega, n9, hN9, rfl⟩⟩
