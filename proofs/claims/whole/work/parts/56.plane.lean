/-! plane -/
theorem zV_mono {P : zCT → Prop} {mt : zMT} {sh : zSh} {u : Nat × Nat} {pc : Nat} {L : List (Option zAV)} {st : List zAV} {mem : zMem} {Q Q' : zQT} (h : ∀ r sh m, Q r sh m → Q' r sh m) (k : zV P mt sh u pc L st mem Q) : zV P mt sh u pc L st mem Q' :=
  fun X p l e s m args below meth c Z hP C R => k X p l e s m args below meth c Z hP C (fun pc ls H locs cells slots r sh mem i a1 a2 a3 a4 a5 a6 hq => R pc ls H locs cells slots r sh mem i a1 a2 a3 a4 a5 a6 (h _ _ _ hq))
theorem zS_mono {P : zCT → Prop} {mt : zMT} {u : Nat × Nat} {pc : Nat} {L : List (Option zAV)} {st : List zAV} {mem : zMem} {Q Q' : zQ2} (h : ∀ r m, Q r m → Q' r m) (k : zS P mt u pc L st mem (zQs Q)) : zS P mt u pc L st mem (zQs Q') :=
  zV_mono (fun r sh m hq => by obtain ⟨a, m', b, c⟩ := hq; exact ⟨a, m', b, h r m' c⟩) k
theorem zff_all {p : Int → Prop} : ∀ (k : Nat) (i : Int), zff p k i = i + k → ∀ j, i ≤ j → j < i + k → ¬ p j
  | 0, i, _, j, h1, h2 => by omega
  | k + 1, i, h, j, h1, h2 => by
    unfold zff at h
    rcases Classical.em (p i) with c | c
    · rw [cif_t c] at h
      omega
    · rw [cif_f c] at h
      by_cases e : j = i
      · rw [e]; exact c
      · exact zff_all k (i + 1) (by omega) j (by omega) (by omega)
theorem ffI_all {f : Int → Int} {n : Int} (hn : 0 ≤ n) (h : ffI f n = n) : ∀ i, 0 ≤ i → i < n → fitsP f i := by
  intro i h1 h2
  unfold ffI at h
  have := zff_all (p := fun i => ¬ fitsP f i) (n - 0).toNat 0 (by omega) i h1 (by omega)
  exact Classical.byContradiction this
theorem numAt_r {f : Int → Int} {i : Int} (h : 48 ≤ f (i + 1) ∧ f (i + 1) ≤ 57) : -9 ≤ numAt f i ∧ numAt f i ≤ 9 := by
  unfold numAt
  split <;> omega
/-- j curves are read off the page -/
def paW (mem : zMem) (j : Int) (m : zMem) : Prop := m 3 1 = j ∧ (∀ l, 0 ≤ l → l < j → m (3 + 2 + l) 0 = kindBy (mem 2 (6 * l)) ∧ m (3 + 2 + l) 1 = numAt (mem 2) (6 * l + 1) ∧ m (3 + 2 + l) 2 = numAt (mem 2) (6 * l + 3) ∧ m (3 + 2 + l) 3 = mem 0 15 + l) ∧ m 0 15 = mem 0 15 + j ∧ (∀ k, k ≠ 15 → m 0 k = mem 0 k) ∧ ∀ a, ¬ (a = 0 ∨ (3 ≤ a ∧ a ≤ 8)) → m a = mem a
theorem ac_0 {mem : zMem} {k b c : Int} (e : mem 3 1 < 4) (h0 : 0 ≤ mem 3 1) : acM mem k b c 0 15 = mem 0 15 + 1 ∧ ∀ s, s ≠ 15 → acM mem k b c 0 s = mem 0 s := by
  unfold acM
  rw [cif_t e]
  refine ⟨zup_s, fun s hs => ?_⟩
  rw [zup_k hs]
  unfold apR
  rw [zup_a (by omega), wrC_o (by omega)]
theorem ac_fr2 {mem : zMem} {k b c x : Int} (h : ¬ (x = 0 ∨ (3 ≤ x ∧ x ≤ 8))) (hn : 0 ≤ mem 3 1) : acM mem k b c x = mem x := by
  unfold acM
  by_cases e : mem 3 1 < 4
  · rw [cif_t e, zup_a (by omega)]
    unfold apR
    rw [zup_a (by omega), wrC_o (by omega)]
  · rw [cif_f e]
theorem paW_s {mem m : zMem} {j : Int} (h : paW mem j m) (hj : 0 ≤ j ∧ j < 4) : paW mem (j + 1) (acM m (kindBy (mem 2 (6 * j))) (numAt (mem 2) (6 * j + 1)) (numAt (mem 2) (6 * j + 3))) := by
  obtain ⟨h1, h2, h3, h4, h5⟩ := h
  obtain ⟨v1, v2, v3, v4, v5, v6⟩ := ac_v (mem := m) (k := kindBy (mem 2 (6 * j))) (b := numAt (mem 2) (6 * j + 1)) (c := numAt (mem 2) (6 * j + 3)) (by omega) (by omega)
  obtain ⟨z1, z2⟩ := ac_0 (mem := m) (k := kindBy (mem 2 (6 * j))) (b := numAt (mem 2) (6 * j + 1)) (c := numAt (mem 2) (6 * j + 3)) (by omega) (by omega)
  refine ⟨by omega, fun l q1 q2 => ?_, by omega, fun k hk => by rw [z2 k hk]; exact h4 k hk, fun a ha => by rw [ac_fr2 ha (by omega)]; exact h5 a ha⟩
  rw [h1] at v2 v3 v4 v5 v6
  by_cases e : l = j
  · rw [e, v3, v4, v5, v6, h3]
    exact ⟨rfl, rfl, rfl, rfl⟩
  · rw [v2 l q1 (by omega)]
    exact h2 l q1 (by omega)
def plP (mem : zMem) : Prop := mem 1 1 % 6 = 5 ∧ ffI (mem 2) (mem 1 1) = mem 1 1
theorem paW_K {mem m : zMem} {j : Int} (h : paW mem j m) (hj : 0 ≤ j ∧ j ≤ 4) (hf : ∀ i, 0 ≤ i → i < mem 1 1 → fitsP (mem 2) i) (hn : 6 * j ≤ mem 1 1 + 1) : rwK m 3 := by
  obtain ⟨h1, h2, h3, h4, h5⟩ := h
  refine ⟨by omega, fun k q1 q2 => ?_⟩
  obtain ⟨e0, e1, e2, _⟩ := h2 k q1 (by omega)
  rw [e0, e1, e2]
  refine ⟨?_, ?_, ?_⟩
  · have f0 := (hf (6 * k) (by omega) (by omega)).2.1 (by omega)
    have := kindBy_r (mem 2 (6 * k))
    omega
  · refine numAt_r ?_
    rw [show 6 * k + 1 + 1 = 6 * k + 2 by omega]
    exact (hf (6 * k + 2) (by omega) (by omega)).2.2.2.1 (by omega)
  · refine numAt_r ?_
    rw [show 6 * k + 3 + 1 = 6 * k + 4 by omega]
    exact (hf (6 * k + 4) (by omega) (by omega)).2.2.2.1 (by omega)
/-- what is put away when a plane has been read -/
def paE (m : zMem) : zMem := zup (zup (zup (zup m 1 1 0) 21 4 0) 0 12 0) 0 13 (m 0 13 + 1)
theorem paE_o {m : zMem} {x : Int} (h : x ≠ 0 ∧ x ≠ 1 ∧ x ≠ 21) : paE m x = m x := by
  unfold paE
  rw [zup_a h.1, zup_a h.1, zup_a h.2.2, zup_a h.2.1]
theorem s_Cp_plane_l (mem : zMem) (hn : 0 ≤ mem 1 1 ∧ mem 1 1 ≤ 24) (hc : ∀ i, 0 ≤ i → i < mem 1 1 → 0 ≤ mem 2 i ∧ mem 2 i ≤ 126) (hI : okI mem 31) (hpl : plP mem) : ∀ (j : Int) (m : zMem), (0 ≤ j ∧ 6 * j ≤ mem 1 1 + 1) → (paW mem j m) → zS zT m_Cp_plane (0, 0) 23 [some (2, 0), some (0, (6 * j)), none, none] [] m (zQs (fun r m => (¬ plP mem ∧ r = some (0, -103) ∧ m = mem) ∨ (plP mem ∧ ∃ m1, paW mem ((mem 1 1 + 1) / 6) m1 ∧ r = some (0, (mem 1 1 + 1) / 6) ∧ BLT (paE m1) m))) := by
  intro j m
  obtain ⟨k9, hk9⟩ : ∃ kq : Nat, (mem 1 1 + 1 - 6 * j).toNat = kq := ⟨_, rfl⟩
  induction k9 using Nat.strongRecOn generalizing j m with
  | _ k9 ih =>
    intro i0 i1
    have hp1 := hpl.1
    have hfa := ffI_all hn.1 hpl.2
    have e2 : m 2 = mem 2 := i1.2.2.2.2 2 (by omega)
    have e1 : m 1 = mem 1 := i1.2.2.2.2 1 (by omega)
    have e11 : m 1 1 = mem 1 1 := by rw [e1]
    have e13 : m 0 13 = mem 0 13 := i1.2.2.2.1 13 (by decide)
    have hI2 : okI (paE m) 31 := okI_fr (fun x q1 q2 => by rw [paE_o (by omega)]; exact i1.2.2.2.2 x (by omega)) hI
    have hK1 := paW_K i1 (by omega) hfa i0.2
    have hK2 : rwK (paE m) 3 := by
      refine ⟨by rw [paE_o (by omega)]; exact hK1.1, fun k q1 q2 => ?_⟩
      rw [paE_o (by omega)] at q2
      have hk1 := hK1.1
      rw [paE_o (by omega)]
      exact hK1.2 k q1 q2
    refine zV_iload_n d_Cp_plane_23 rfl ?_
    refine zV_aload_n d_Cp_plane_24 rfl ?_
    refine zS_getr (r := 1) d_Cp_plane_25 f_Cp_12 rfl rfl rfl ?_
    refine zS_get d_Cp_plane_28 f_Cp_95 rfl rfl ?_
    refine zV_icmp_ge d_Cp_plane_31 (by omega) (by omega) (fun c31 => ?_) (fun c31 => ?_)
    · refine zV_aload_n d_Cp_plane_76 rfl ?_
      refine zS_getr (r := 1) d_Cp_plane_77 f_Cp_12 rfl rfl rfl ?_
      refine zV_iconst d_Cp_plane_80 ?_
      refine zS_puti d_Cp_plane_81 f_Cp_95 rfl ⟨rfl, rfl⟩ rfl ?_
      refine zV_aload_n d_Cp_plane_84 rfl ?_
      refine zS_getr (r := 21) d_Cp_plane_85 f_Cp_32 rfl rfl rfl ?_
      refine zV_iconst d_Cp_plane_88 ?_
      refine zS_puti d_Cp_plane_89 f_Cp_118 rfl ⟨rfl, rfl⟩ rfl ?_
      refine zV_aload_n d_Cp_plane_92 rfl ?_
      refine zV_iconst d_Cp_plane_93 ?_
      refine zS_putz d_Cp_plane_94 f_Cp_77 rfl ⟨rfl, rfl⟩ rfl (Or.inl rfl) ?_
      refine zV_aload_n d_Cp_plane_97 rfl ?_
      refine zV_dup d_Cp_plane_98 (show (2 : Nat) ≠ 1 by decide) ?_
      refine zS_get d_Cp_plane_99 f_Cp_81 rfl rfl ?_
      rw [show (zup (zup (zup m 1 1 0) 21 4 0) 0 12 0) 0 13 = (m 0 13) from (zup_k (by omega)).trans ((zup_c (by omega)).trans (zup_c (by omega)))]
      refine zV_iconst d_Cp_plane_102 ?_
      refine zV_iadd d_Cp_plane_103 ?_
      refine zS_puti d_Cp_plane_104 f_Cp_81 rfl ⟨rfl, rfl⟩ rfl ?_
      refine zV_aload_n d_Cp_plane_107 rfl ?_
      refine zS_getr (r := 31) d_Cp_plane_108 f_Cp_42 rfl rfl rfl ?_
      refine zV_aload_n d_Cp_plane_111 rfl ?_
      refine zS_getr (r := 3) d_Cp_plane_112 f_Cp_19 rfl rfl rfl ?_
      refine zS_invv (mt' := m_St_build) (avs := [(2, 3)]) (st := []) d_Cp_plane_115 l_Cp_119 k_St_build rfl rfl rfl rfl rfl (s_St_build (paE m) 31 3 (Or.inl rfl) (Or.inl rfl) hK2 hI2.1 hI2.2.1 hI2.2.2) (fun r9 m9 hq9 => ?_)
      obtain ⟨rfl, hb9⟩ := hq9
      obtain ⟨hD9, hF9⟩ := bld_fin hK2 hI2 hb9
      show zS zT m_Cp_plane (0, 0) 118 [some (2, 0), some (0, (6 * j)), none, none] [] m9 _
      refine zV_aload_n d_Cp_plane_118 rfl ?_
      refine zS_getr (r := 3) d_Cp_plane_119 f_Cp_19 rfl rfl rfl ?_
      refine zS_get d_Cp_plane_122 f_Cp_106 rfl rfl ?_
      exact zS_iret d_Cp_plane_125 rfl ⟨Nat.zero_le _, Nat.zero_le _⟩ (Or.inr ⟨hpl, m, by rw [show (mem 1 1 + 1) / 6 = j by omega]; exact i1, by rw [hF9 3 (by omega), paE_o (by decide), i1.1]; congr 2; omega, hD9, hF9⟩)
    · refine zV_aload_n d_Cp_plane_34 rfl ?_
      refine zS_getr (r := 1) d_Cp_plane_35 f_Cp_12 rfl rfl rfl ?_
      refine zV_iload_n d_Cp_plane_38 rfl ?_
      refine zV_iconst d_Cp_plane_39 ?_
      refine zV_iadd d_Cp_plane_40 ?_
      refine zS_invvE (mt' := m_Pa_numberAt) (avs := [(0, ((6 * j) + 1))]) (st := []) d_Cp_plane_41 l_Cp_107 k_Pa_numberAt rfl rfl rfl rfl rfl (s_Pa_numberAt m ((6 * j) + 1) ⟨by omega, by omega⟩ (by rw [e2]; exact hc _ (by omega) (by omega))) ?_
      show zS zT m_Cp_plane (0, 0) 44 [some (2, 0), some (0, (6 * j)), none, none] [(0, (numAt (m 2) ((6 * j) + 1)))] m _
      refine zV_istore_n (L' := [some (2, 0), some (0, (6 * j)), some (0, (numAt (m 2) ((6 * j) + 1))), none]) d_Cp_plane_44 (by decide) rfl ?_
      refine zV_aload_n d_Cp_plane_45 rfl ?_
      refine zS_getr (r := 1) d_Cp_plane_46 f_Cp_12 rfl rfl rfl ?_
      refine zV_iload_n d_Cp_plane_49 rfl ?_
      refine zV_iconst d_Cp_plane_50 ?_
      refine zV_iadd d_Cp_plane_51 ?_
      refine zS_invvE (mt' := m_Pa_numberAt) (avs := [(0, ((6 * j) + 3))]) (st := []) d_Cp_plane_52 l_Cp_107 k_Pa_numberAt rfl rfl rfl rfl rfl (s_Pa_numberAt m ((6 * j) + 3) ⟨by omega, by omega⟩ (by rw [e2]; exact hc _ (by omega) (by omega))) ?_
      show zS zT m_Cp_plane (0, 0) 55 [some (2, 0), some (0, (6 * j)), some (0, (numAt (m 2) ((6 * j) + 1))), none] [(0, (numAt (m 2) ((6 * j) + 3)))] m _
      refine zV_istore_n (L' := [some (2, 0), some (0, (6 * j)), some (0, (numAt (m 2) ((6 * j) + 1))), some (0, (numAt (m 2) ((6 * j) + 3)))]) d_Cp_plane_55 (by decide) rfl ?_
      refine zV_aload_n d_Cp_plane_56 rfl ?_
      refine zV_aload_n d_Cp_plane_57 rfl ?_
      refine zS_getr (r := 1) d_Cp_plane_58 f_Cp_12 rfl rfl rfl ?_
      refine zV_iload_n d_Cp_plane_61 rfl ?_
      refine zS_invvE (mt' := m_Pa_kindAt) (avs := [(0, (6 * j))]) (st := [(2, 0)]) d_Cp_plane_62 l_Cp_111 k_Pa_kindAt rfl rfl rfl rfl rfl (s_Pa_kindAt m (6 * j) ⟨by omega, by omega⟩ (by rw [e2]; exact hc _ (by omega) (by omega))) ?_
      show zS zT m_Cp_plane (0, 0) 65 [some (2, 0), some (0, (6 * j)), some (0, (numAt (m 2) ((6 * j) + 1))), some (0, (numAt (m 2) ((6 * j) + 3)))] [(0, (kindBy (m 2 (6 * j)))), (2, 0)] m _
      refine zV_iload_n d_Cp_plane_65 rfl ?_
      refine zV_iload_n d_Cp_plane_66 rfl ?_
      refine zS_invvE (mt' := m_Cp_appendCurve) (avs := [(0, (kindBy (m 2 (6 * j)))), (0, (numAt (m 2) ((6 * j) + 1))), (0, (numAt (m 2) ((6 * j) + 3)))]) (st := []) d_Cp_plane_67 l_Cp_114 k_Cp_appendCurve rfl rfl rfl rfl rfl (s_Cp_appendCurve m (kindBy (m 2 (6 * j))) (numAt (m 2) ((6 * j) + 1)) (numAt (m 2) ((6 * j) + 3)) (by rw [i1.1]; omega)) ?_
      show zS zT m_Cp_plane (0, 0) 70 [some (2, 0), some (0, (6 * j)), some (0, (numAt (m 2) ((6 * j) + 1))), some (0, (numAt (m 2) ((6 * j) + 3)))] [] (acM m (kindBy (m 2 (6 * j))) (numAt (m 2) ((6 * j) + 1)) (numAt (m 2) ((6 * j) + 3))) _
      refine zV_iinc (L' := [some (2, 0), some (0, ((6 * j) + 6)), some (0, (numAt (m 2) ((6 * j) + 1))), some (0, (numAt (m 2) ((6 * j) + 3)))]) d_Cp_plane_70 (by decide) rfl rfl ?_
      refine zV_goto d_Cp_plane_73 ?_
      refine zV_forget (L' := [some (2, 0), some (0, ((6 * j) + 6)), none, none]) (by simp [zle]) ?_
      rw [show 6 * j + 6 = 6 * (j + 1) by omega, show kindBy (m 2 (6 * j)) = kindBy (mem 2 (6 * j)) by rw [e2], show numAt (m 2) (6 * j + 1) = numAt (mem 2) (6 * j + 1) by rw [e2], show numAt (m 2) (6 * j + 3) = numAt (mem 2) (6 * j + 3) by rw [e2]]
      exact ih _ (by omega) (j + 1) _ rfl (by omega) (paW_s i1 ⟨i0.1, by omega⟩)
theorem s_Cp_plane (mem : zMem) (hn : 0 ≤ mem 1 1 ∧ mem 1 1 ≤ 24) (hc : ∀ i, 0 ≤ i → i < mem 1 1 → 0 ≤ mem 2 i ∧ mem 2 i ≤ 126) (hI : okI mem 31) : zF m_Cp_plane [(2, 0)] mem (fun r m => (¬ plP mem ∧ r = some (0, -103) ∧ m = mem) ∨ (plP mem ∧ ∃ m1, paW mem ((mem 1 1 + 1) / 6) m1 ∧ r = some (0, (mem 1 1 + 1) / 6) ∧ BLT (paE m1) m)) := by
  refine zF_of (by decide) (Nat.le_of_ble_eq_true rfl) ?_
  show zS zT m_Cp_plane (0, 0) 0 [some (2, 0), none, none, none] [] mem _
  refine zV_aload_n d_Cp_plane_0 rfl ?_
  refine zS_getr (r := 1) d_Cp_plane_1 f_Cp_12 rfl rfl rfl ?_
  refine zS_invvE (mt' := m_Pa_isPlane) (avs := []) (st := []) d_Cp_plane_4 l_Cp_102 k_Pa_isPlane rfl rfl rfl rfl rfl (s_Pa_isPlane mem hn hc) ?_
  show zS zT m_Cp_plane (0, 0) 7 [some (2, 0), none, none, none] [(0, (zb (mem 1 1 % 6 = 5 ∧ ffI (mem 2) (mem 1 1) = mem 1 1)))] mem _
  refine zV_ifb_ne d_Cp_plane_7 (fun c7 => ?_) (fun c7 => ?_)
  · refine zV_aload_n d_Cp_plane_13 rfl ?_
    refine zS_getr (r := 3) d_Cp_plane_14 f_Cp_19 rfl rfl rfl ?_
    refine zV_iconst d_Cp_plane_17 ?_
    refine zS_puti d_Cp_plane_18 f_Cp_106 rfl ⟨rfl, rfl⟩ rfl ?_
    refine zV_iconst d_Cp_plane_21 ?_
    refine zV_istore_n (L' := [some (2, 0), some (0, 0), none, none]) d_Cp_plane_22 (by decide) rfl ?_
    refine s_Cp_plane_l mem hn hc hI c7 0 _ ⟨by omega, by omega⟩ ⟨zup_s, fun l q1 q2 => by omega, ?_, fun k hk => zup_c (by omega), fun a ha => zup_a (by omega)⟩
    rw [zup_c (by omega)]
    omega
  · refine zV_bipush d_Cp_plane_10 ?_
    exact zS_iret d_Cp_plane_12 rfl ⟨Nat.zero_le _, Nat.zero_le _⟩ (Or.inl ⟨c7, rfl, rfl⟩)
