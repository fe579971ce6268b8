/-! the reference: what is done -/
def pmA2 (m : zMem) (k kd b c : Int) : zMem := nmM (zup (zup (zup m 82 k kd) 83 k b) 84 k c) k
/-- j curves are read off the page -/
def paM (mem : zMem) (j : Int) (m : zMem) : Prop := m 80 4 = mem 80 4 + j ∧ (∀ l, 0 ≤ l → l < j → m 82 l = kindBy (mem 81 (6 * l)) ∧ m 83 l = numAt (mem 81) (6 * l + 1) ∧ m 84 l = numAt (mem 81) (6 * l + 3) ∧ m 85 l = mem 80 4 + l) ∧ (∀ l, j ≤ l → m 82 l = mem 82 l ∧ m 83 l = mem 83 l ∧ m 84 l = mem 84 l ∧ m 85 l = mem 85 l) ∧ (∀ k, k ≠ 4 → k ≠ 2 → m 80 k = mem 80 k) ∧ (∀ a, ¬ (a = 80 ∨ (82 ≤ a ∧ a ≤ 85)) → m a = mem a)
theorem paM_s {mem m : zMem} {j : Int} (h : paM mem j m) (hj : 0 ≤ j ∧ j < 4) : paM mem (j + 1) (pmA2 m j (kindBy (mem 81 (6 * j))) (numAt (mem 81) (6 * j + 1)) (numAt (mem 81) (6 * j + 3))) := by
  obtain ⟨h1, h2, h3, h4, h5⟩ := h
  have e4 : ∀ x y z, zup (zup (zup m 82 j x) 83 j y) 84 j z 80 4 = m 80 4 := fun x y z => by rw [zup_c (by decide), zup_c (by decide), zup_c (by decide)]
  unfold pmA2 nmM
  rw [e4]
  refine ⟨by rw [zup_s]; omega, fun l q1 q2 => ?_, fun l q => ?_, fun k q1 q2 => ?_, fun a q => ?_⟩
  · by_cases e : l = j
    · rw [e]
      refine ⟨?_, ?_, ?_, ?_⟩
      · rw [zup_c (by decide), zup_c (by decide), zup_c (by decide), zup_c (by decide), zup_s]
      · rw [zup_c (by decide), zup_c (by decide), zup_c (by decide), zup_s]
      · rw [zup_c (by decide), zup_c (by decide), zup_s]
      · rw [zup_c (by decide), zup_s, h1]
    · obtain ⟨a1, a2, a3, a4⟩ := h2 l q1 (by omega)
      refine ⟨?_, ?_, ?_, ?_⟩
      · rw [zup_c (by decide), zup_c (by decide), zup_c (by decide), zup_c (by decide), zup_k e]; exact a1
      · rw [zup_c (by decide), zup_c (by decide), zup_c (by decide), zup_k e, zup_c (by decide)]; exact a2
      · rw [zup_c (by decide), zup_c (by decide), zup_k e, zup_c (by decide), zup_c (by decide)]; exact a3
      · rw [zup_c (by decide), zup_k e, zup_c (by decide), zup_c (by decide), zup_c (by decide)]; exact a4
  · obtain ⟨a1, a2, a3, a4⟩ := h3 l (by omega)
    have e : l ≠ j := by omega
    refine ⟨?_, ?_, ?_, ?_⟩
    · rw [zup_c (by decide), zup_c (by decide), zup_c (by decide), zup_c (by decide), zup_k e]; exact a1
    · rw [zup_c (by decide), zup_c (by decide), zup_c (by decide), zup_k e, zup_c (by decide)]; exact a2
    · rw [zup_c (by decide), zup_c (by decide), zup_k e, zup_c (by decide), zup_c (by decide)]; exact a3
    · rw [zup_c (by decide), zup_k e, zup_c (by decide), zup_c (by decide), zup_c (by decide)]; exact a4
  · rw [zup_k q1, zup_c (by decide), zup_c (by decide), zup_c (by decide), zup_c (by decide)]; exact h4 k q1 q2
  · rw [zup_a (by omega), zup_a (by omega), zup_a (by omega), zup_a (by omega), zup_a (by omega)]; exact h5 a q
def plM (mem : zMem) : Prop := mem 80 1 % 6 = 5 ∧ ffI (mem 81) (mem 80 1) = mem 80 1
theorem s_Mo_plane_l (mem : zMem) (hn : 0 ≤ mem 80 1 ∧ mem 80 1 ≤ 24) (hc : ∀ i, 0 ≤ i → i < mem 80 1 → 0 ≤ mem 81 i ∧ mem 81 i ≤ 126) (hpl : plM mem) : ∀ (j : Int) (m : zMem), (0 ≤ j ∧ j ≤ (mem 80 1 + 1) / 6) → (paM mem j m) → (m 80 2 = (mem 80 1 + 1) / 6) → zS zT m_Mo_plane (0, 0) 40 [some (2, 80), some (0, j)] [] m (zQs (fun r m => (¬ plM mem ∧ r = some (0, -103) ∧ m = mem) ∨ (plM mem ∧ r = some (0, (mem 80 1 + 1) / 6) ∧ ∃ m1, paM mem ((mem 80 1 + 1) / 6) m1 ∧ m1 80 2 = (mem 80 1 + 1) / 6 ∧ m = zup (zup (zup (zup m1 80 22 0) 80 3 (mem 80 3 + 1)) 80 1 0) 80 9 1))) := by
  intro j m
  obtain ⟨k9, hk9⟩ : ∃ kq : Nat, ((mem 80 1 + 1) / 6 - j).toNat = kq := ⟨_, rfl⟩
  induction k9 using Nat.strongRecOn generalizing j m with
  | _ k9 ih =>
    intro i0 i1 i2
    have hp1 := hpl.1
    have e81 : m 81 = mem 81 := i1.2.2.2.2 81 (by omega)
    have e3 : m 80 3 = mem 80 3 := i1.2.2.2.1 3 (by decide) (by decide)
    have z1 : ∀ x, zup m 82 j x 81 = mem 81 := fun x => by rw [zup_a (by decide)]; exact e81
    have z2 : ∀ x y, zup (zup m 82 j x) 83 j y 81 = mem 81 := fun x y => by rw [zup_a (by decide), zup_a (by decide)]; exact e81
    refine zV_iload_n d_Mo_plane_40 rfl ?_
    refine zV_aload_n d_Mo_plane_41 rfl ?_
    refine zS_get d_Mo_plane_42 f_Mo_103 rfl rfl ?_
    refine zV_icmp_ge d_Mo_plane_45 (by omega) (by omega) (fun c45 => ?_) (fun c45 => ?_)
    · refine zV_aload_n d_Mo_plane_109 rfl ?_
      refine zV_iconst d_Mo_plane_110 ?_
      refine zS_puti d_Mo_plane_111 f_Mo_113 rfl ⟨rfl, rfl⟩ rfl ?_
      refine zV_aload_n d_Mo_plane_114 rfl ?_
      refine zV_dup d_Mo_plane_115 (show (2 : Nat) ≠ 1 by decide) ?_
      refine zS_get d_Mo_plane_116 f_Mo_116 rfl rfl ?_
      rw [show (zup m 80 22 0) 80 3 = (m 80 3) from zup_k (by omega)]
      refine zV_iconst d_Mo_plane_119 ?_
      refine zV_iadd d_Mo_plane_120 ?_
      refine zS_puti d_Mo_plane_121 f_Mo_116 rfl ⟨rfl, rfl⟩ rfl ?_
      refine zV_aload_n d_Mo_plane_124 rfl ?_
      refine zV_iconst d_Mo_plane_125 ?_
      refine zS_puti d_Mo_plane_126 f_Mo_84 rfl ⟨rfl, rfl⟩ rfl ?_
      refine zV_aload_n d_Mo_plane_129 rfl ?_
      refine zV_iconst d_Mo_plane_130 ?_
      refine zS_putz d_Mo_plane_131 f_Mo_119 rfl ⟨rfl, rfl⟩ rfl (Or.inr rfl) ?_
      refine zV_aload_n d_Mo_plane_134 rfl ?_
      refine zS_get d_Mo_plane_135 f_Mo_103 rfl rfl ?_
      rw [show (zup (zup (zup (zup m 80 22 0) 80 3 ((m 80 3) + 1)) 80 1 0) 80 9 1) 80 2 = (m 80 2) from (zup_k (by omega)).trans ((zup_k (by omega)).trans ((zup_k (by omega)).trans (zup_k (by omega))))]
      exact zS_iret d_Mo_plane_138 rfl ⟨Nat.zero_le _, Nat.zero_le _⟩ (Or.inr ⟨hpl, by rw [i2], m, by rw [show (mem 80 1 + 1) / 6 = j by omega]; exact i1, i2, by rw [e3]⟩)
    · refine zV_aload_n d_Mo_plane_48 rfl ?_
      refine zS_getr (r := 82) d_Mo_plane_49 f_Mo_13 rfl rfl rfl ?_
      refine zV_iload_n d_Mo_plane_52 rfl ?_
      refine zV_aload_n d_Mo_plane_53 rfl ?_
      refine zS_getr (r := 81) d_Mo_plane_54 f_Mo_7 rfl rfl rfl ?_
      refine zV_bipush d_Mo_plane_57 ?_
      refine zV_iload_n d_Mo_plane_59 rfl ?_
      refine zV_imul d_Mo_plane_60 ?_
      refine zS_iald d_Mo_plane_61 rfl rfl ⟨by omega, by omega⟩ ?_
      refine zS_invsE (mt' := m_Mo_kindBy) (avs := [(0, (m 81 (6 * j)))]) (st := [(0, j), (2, 82)]) d_Mo_plane_62 l_Mo_87 k_Mo_kindBy rfl rfl rfl rfl (s_Mo_kindBy m (m 81 (6 * j)) (by rw [e81]; have := hc (6 * j) (by omega) (by omega); omega)) ?_
      show zS zT m_Mo_plane (0, 0) 65 [some (2, 80), some (0, j)] [(0, (kindBy (m 81 (6 * j)))), (0, j), (2, 82)] m _
      refine zS_iast d_Mo_plane_65 rfl rfl ⟨by omega, by omega⟩ ?_
      refine zV_aload_n d_Mo_plane_66 rfl ?_
      refine zS_getr (r := 83) d_Mo_plane_67 f_Mo_16 rfl rfl rfl ?_
      refine zV_iload_n d_Mo_plane_70 rfl ?_
      refine zV_aload_n d_Mo_plane_71 rfl ?_
      refine zV_bipush d_Mo_plane_72 ?_
      refine zV_iload_n d_Mo_plane_74 rfl ?_
      refine zV_imul d_Mo_plane_75 ?_
      refine zV_iconst d_Mo_plane_76 ?_
      refine zV_iadd d_Mo_plane_77 ?_
      refine zS_invvE (mt' := m_Mo_numberAt) (avs := [(0, ((6 * j) + 1))]) (st := [(0, j), (2, 83)]) d_Mo_plane_78 l_Mo_106 k_Mo_numberAt rfl rfl rfl rfl rfl (by have z := s_Mo_numberAt (zup m 82 j (kindBy (m 81 (6 * j)))) ((6 * j) + 1) (by omega) (by rw [z1]; exact hc _ (by omega) (by omega)); rw [z1] at z; exact z) ?_
      show zS zT m_Mo_plane (0, 0) 81 [some (2, 80), some (0, j)] [(0, (numAt (mem 81) ((6 * j) + 1))), (0, j), (2, 83)] (zup m 82 j (kindBy (m 81 (6 * j)))) _
      refine zS_iast d_Mo_plane_81 rfl rfl ⟨by omega, by omega⟩ ?_
      refine zV_aload_n d_Mo_plane_82 rfl ?_
      refine zS_getr (r := 84) d_Mo_plane_83 f_Mo_19 rfl rfl rfl ?_
      refine zV_iload_n d_Mo_plane_86 rfl ?_
      refine zV_aload_n d_Mo_plane_87 rfl ?_
      refine zV_bipush d_Mo_plane_88 ?_
      refine zV_iload_n d_Mo_plane_90 rfl ?_
      refine zV_imul d_Mo_plane_91 ?_
      refine zV_iconst d_Mo_plane_92 ?_
      refine zV_iadd d_Mo_plane_93 ?_
      refine zS_invvE (mt' := m_Mo_numberAt) (avs := [(0, ((6 * j) + 3))]) (st := [(0, j), (2, 84)]) d_Mo_plane_94 l_Mo_106 k_Mo_numberAt rfl rfl rfl rfl rfl (by have z := s_Mo_numberAt (zup (zup m 82 j (kindBy (m 81 (6 * j)))) 83 j (numAt (mem 81) ((6 * j) + 1))) ((6 * j) + 3) (by omega) (by rw [z2]; exact hc _ (by omega) (by omega)); rw [z2] at z; exact z) ?_
      show zS zT m_Mo_plane (0, 0) 97 [some (2, 80), some (0, j)] [(0, (numAt (mem 81) ((6 * j) + 3))), (0, j), (2, 84)] (zup (zup m 82 j (kindBy (m 81 (6 * j)))) 83 j (numAt (mem 81) ((6 * j) + 1))) _
      refine zS_iast d_Mo_plane_97 rfl rfl ⟨by omega, by omega⟩ ?_
      refine zV_aload_n d_Mo_plane_98 rfl ?_
      refine zV_iload_n d_Mo_plane_99 rfl ?_
      refine zS_invvE (mt' := m_Mo_name) (avs := [(0, j)]) (st := []) d_Mo_plane_100 l_Mo_109 k_Mo_name rfl rfl rfl rfl rfl (s_Mo_name (zup (zup (zup m 82 j (kindBy (m 81 (6 * j)))) 83 j (numAt (mem 81) ((6 * j) + 1))) 84 j (numAt (mem 81) ((6 * j) + 3))) j (by omega)) ?_
      show zS zT m_Mo_plane (0, 0) 103 [some (2, 80), some (0, j)] [] (nmM (zup (zup (zup m 82 j (kindBy (m 81 (6 * j)))) 83 j (numAt (mem 81) ((6 * j) + 1))) 84 j (numAt (mem 81) ((6 * j) + 3))) j) _
      refine zV_iinc (L' := [some (2, 80), some (0, (j + 1))]) d_Mo_plane_103 (by decide) rfl rfl ?_
      refine zV_goto d_Mo_plane_106 ?_
      rw [show kindBy (m 81 (6 * j)) = kindBy (mem 81 (6 * j)) by rw [e81]]
      refine ih _ (by omega) (j + 1) _ rfl (by omega) (paM_s i1 (by omega)) ?_
      unfold nmM
      rw [zup_k (by decide), zup_c (by decide), zup_c (by decide), zup_c (by decide), zup_c (by decide)]
      exact i2
theorem s_Mo_plane (mem : zMem) (hn : 0 ≤ mem 80 1 ∧ mem 80 1 ≤ 24) (hc : ∀ i, 0 ≤ i → i < mem 80 1 → 0 ≤ mem 81 i ∧ mem 81 i ≤ 126) : zF m_Mo_plane [(2, 80)] mem (fun r m => (¬ plM mem ∧ r = some (0, -103) ∧ m = mem) ∨ (plM mem ∧ r = some (0, (mem 80 1 + 1) / 6) ∧ ∃ m1, paM mem ((mem 80 1 + 1) / 6) m1 ∧ m1 80 2 = (mem 80 1 + 1) / 6 ∧ m = zup (zup (zup (zup m1 80 22 0) 80 3 (mem 80 3 + 1)) 80 1 0) 80 9 1)) := by
  have hf := ffI_r (f := mem 81) hn.1
  refine zF_of (by decide) (Nat.le_of_ble_eq_true rfl) ?_
  show zS zT m_Mo_plane (0, 0) 0 [some (2, 80), none] [] mem _
  refine zV_aload_n d_Mo_plane_0 rfl ?_
  refine zS_get d_Mo_plane_1 f_Mo_84 rfl rfl ?_
  refine zV_bipush d_Mo_plane_4 ?_
  refine zV_irem_p d_Mo_plane_6 (by omega) (by omega) ?_
  refine zV_iconst d_Mo_plane_7 ?_
  refine zV_icmp_ne d_Mo_plane_8 (by omega) (by omega) (fun c8 => ?_) (fun c8 => ?_)
  · refine zV_bipush d_Mo_plane_22 ?_
    exact zS_iret d_Mo_plane_24 rfl ⟨Nat.zero_le _, Nat.zero_le _⟩ (Or.inl ⟨fun z => by unfold plM at z; omega, rfl, rfl⟩)
  · refine zV_aload_n d_Mo_plane_11 rfl ?_
    refine zS_invvE (mt' := m_Mo_faultOf) (avs := []) (st := []) d_Mo_plane_12 l_Mo_99 k_Mo_faultOf rfl rfl rfl rfl rfl (s_Mo_faultOf mem hn hc) ?_
    show zS zT m_Mo_plane (0, 0) 15 [some (2, 80), none] [(0, (ffI (mem 81) (mem 80 1)))] mem _
    refine zV_aload_n d_Mo_plane_15 rfl ?_
    refine zS_get d_Mo_plane_16 f_Mo_84 rfl rfl ?_
    refine zV_icmp_ge d_Mo_plane_19 (by omega) (by omega) (fun c19 => ?_) (fun c19 => ?_)
    · refine zV_aload_n d_Mo_plane_25 rfl ?_
      refine zV_aload_n d_Mo_plane_26 rfl ?_
      refine zS_get d_Mo_plane_27 f_Mo_84 rfl rfl ?_
      refine zV_iconst d_Mo_plane_30 ?_
      refine zV_iadd d_Mo_plane_31 ?_
      refine zV_bipush d_Mo_plane_32 ?_
      refine zV_idiv_p d_Mo_plane_34 (by omega) (by omega) ?_
      refine zS_puti d_Mo_plane_35 f_Mo_103 rfl ⟨rfl, rfl⟩ rfl ?_
      refine zV_iconst d_Mo_plane_38 ?_
      refine zV_istore_n (L' := [some (2, 80), some (0, 0)]) d_Mo_plane_39 (by decide) rfl ?_
      refine s_Mo_plane_l mem hn hc ⟨by omega, by omega⟩ 0 _ (by omega) ⟨by rw [zup_k (by decide)]; omega, fun l q1 q2 => by omega, fun l q => by rw [zup_c (by decide), zup_c (by decide), zup_c (by decide), zup_c (by decide)]; exact ⟨rfl, rfl, rfl, rfl⟩, fun k _ q => zup_k q, fun a q => zup_a (by omega)⟩ zup_s
    · refine zV_bipush d_Mo_plane_22 ?_
      exact zS_iret d_Mo_plane_24 rfl ⟨Nat.zero_le _, Nat.zero_le _⟩ (Or.inl ⟨fun z => by unfold plM at z; omega, rfl, rfl⟩)
theorem s_Mo_put (mem : zMem) (k b c : Int) (hk : I32 k) (hb : I32 b) (hc : I32 c) (hK : moK mem) : zF m_Mo_put [(2, 80), (0, k), (0, b), (0, c)] mem (fun r m => (¬ ((0 ≤ k ∧ k ≤ 4) ∧ (-9 ≤ b ∧ b ≤ 9) ∧ (-9 ≤ c ∧ c ≤ 9)) ∧ r = some (0, -102) ∧ m = mem) ∨ (((0 ≤ k ∧ k ≤ 4) ∧ (-9 ≤ b ∧ b ≤ 9) ∧ (-9 ≤ c ∧ c ≤ 9)) ∧ mem 80 2 = 0 ∧ r = some (0, -103) ∧ m = mem) ∨ (((0 ≤ k ∧ k ≤ 4) ∧ (-9 ≤ b ∧ b ≤ 9) ∧ (-9 ≤ c ∧ c ≤ 9)) ∧ mem 80 2 = 4 ∧ r = some (0, -104) ∧ m = mem) ∨ (((0 ≤ k ∧ k ≤ 4) ∧ (-9 ≤ b ∧ b ≤ 9) ∧ (-9 ≤ c ∧ c ≤ 9)) ∧ (0 < mem 80 2 ∧ mem 80 2 < 4) ∧ r = some (0, mem 80 2 + 1) ∧ m = zup (zup (pmA2 mem (mem 80 2) k b c) 80 2 (mem 80 2 + 1)) 80 9 1)) := by
  have k1 := hK.1
  have e9 : pmA2 mem (mem 80 2) k b c 80 2 = mem 80 2 := by unfold pmA2 nmM; rw [zup_k (by decide), zup_c (by decide), zup_c (by decide), zup_c (by decide), zup_c (by decide)]
  refine zF_of (by decide) (Nat.le_of_ble_eq_true rfl) ?_
  show zS zT m_Mo_put (0, 0) 0 [some (2, 80), some (0, k), some (0, b), some (0, c)] [] mem _
  refine zV_iload_n d_Mo_put_0 rfl ?_
  refine zV_i2l d_Mo_put_1 (by omega) ?_
  refine zV_lconst0 d_Mo_put_2 ?_
  refine zV_ldc2 (a := 4) d_Mo_put_3 n_Mo_284 rfl ?_
  refine zS_invsE (mt' := m_Mo_in) (avs := [(1, k), (1, 0), (1, 4)]) (st := []) d_Mo_put_6 l_Mo_80 k_Mo_in rfl rfl rfl rfl (s_Mo_in mem k 0 4 (by omega) (by omega) (by omega)) ?_
  show zS zT m_Mo_put (0, 0) 9 [some (2, 80), some (0, k), some (0, b), some (0, c)] [(0, (zb (0 ≤ k ∧ k ≤ 4)))] mem _
  refine zV_ifb_eq d_Mo_put_9 (fun c9 => ?_) (fun c9 => ?_)
  · refine zV_bipush d_Mo_put_26 ?_
    exact zS_iret d_Mo_put_28 rfl ⟨Nat.zero_le _, Nat.zero_le _⟩ (Or.inl ⟨by omega, rfl, rfl⟩)
  · refine zV_iload_n d_Mo_put_12 rfl ?_
    refine zS_invsE (mt' := m_Mo_isNumber) (avs := [(0, b)]) (st := []) d_Mo_put_13 l_Mo_305 k_Mo_isNumber rfl rfl rfl rfl (s_Mo_isNumber mem b (by omega)) ?_
    show zS zT m_Mo_put (0, 0) 16 [some (2, 80), some (0, k), some (0, b), some (0, c)] [(0, (zb (-9 ≤ b ∧ b ≤ 9)))] mem _
    refine zV_ifb_eq d_Mo_put_16 (fun c16 => ?_) (fun c16 => ?_)
    · refine zV_bipush d_Mo_put_26 ?_
      exact zS_iret d_Mo_put_28 rfl ⟨Nat.zero_le _, Nat.zero_le _⟩ (Or.inl ⟨by omega, rfl, rfl⟩)
    · refine zV_iload_n d_Mo_put_19 rfl ?_
      refine zS_invsE (mt' := m_Mo_isNumber) (avs := [(0, c)]) (st := []) d_Mo_put_20 l_Mo_305 k_Mo_isNumber rfl rfl rfl rfl (s_Mo_isNumber mem c (by omega)) ?_
      show zS zT m_Mo_put (0, 0) 23 [some (2, 80), some (0, k), some (0, b), some (0, c)] [(0, (zb (-9 ≤ c ∧ c ≤ 9)))] mem _
      refine zV_ifb_ne d_Mo_put_23 (fun c23 => ?_) (fun c23 => ?_)
      · refine zV_aload_n d_Mo_put_29 rfl ?_
        refine zS_invvE (mt' := m_Mo_lacks) (avs := []) (st := []) d_Mo_put_30 l_Mo_213 k_Mo_lacks rfl rfl rfl rfl rfl (s_Mo_lacks mem (by omega)) ?_
        show zS zT m_Mo_put (0, 0) 33 [some (2, 80), some (0, k), some (0, b), some (0, c)] [(0, (zb (mem 80 2 = 0)))] mem _
        refine zV_ifb_eq d_Mo_put_33 (fun c33 => ?_) (fun c33 => ?_)
        · refine zV_aload_n d_Mo_put_39 rfl ?_
          refine zS_get d_Mo_put_40 f_Mo_103 rfl rfl ?_
          refine zV_iconst d_Mo_put_43 ?_
          refine zV_icmp_ne d_Mo_put_44 (by omega) (by omega) (fun c44 => ?_) (fun c44 => ?_)
          · refine zV_aload_n d_Mo_put_50 rfl ?_
            refine zS_getr (r := 82) d_Mo_put_51 f_Mo_13 rfl rfl rfl ?_
            refine zV_aload_n d_Mo_put_54 rfl ?_
            refine zS_get d_Mo_put_55 f_Mo_103 rfl rfl ?_
            refine zV_iload_n d_Mo_put_58 rfl ?_
            refine zS_iast d_Mo_put_59 rfl rfl ⟨by omega, by omega⟩ ?_
            refine zV_aload_n d_Mo_put_60 rfl ?_
            refine zS_getr (r := 83) d_Mo_put_61 f_Mo_16 rfl rfl rfl ?_
            refine zV_aload_n d_Mo_put_64 rfl ?_
            refine zS_get d_Mo_put_65 f_Mo_103 rfl rfl ?_
            rw [show (zup mem 82 (mem 80 2) k) 80 2 = (mem 80 2) from zup_c (by omega)]
            refine zV_iload_n d_Mo_put_68 rfl ?_
            refine zS_iast d_Mo_put_69 rfl rfl ⟨by omega, by omega⟩ ?_
            refine zV_aload_n d_Mo_put_70 rfl ?_
            refine zS_getr (r := 84) d_Mo_put_71 f_Mo_19 rfl rfl rfl ?_
            refine zV_aload_n d_Mo_put_74 rfl ?_
            refine zS_get d_Mo_put_75 f_Mo_103 rfl rfl ?_
            rw [show (zup (zup mem 82 (mem 80 2) k) 83 (mem 80 2) b) 80 2 = (mem 80 2) from (zup_c (by omega)).trans (zup_c (by omega))]
            refine zV_iload_n d_Mo_put_78 rfl ?_
            refine zS_iast d_Mo_put_79 rfl rfl ⟨by omega, by omega⟩ ?_
            refine zV_aload_n d_Mo_put_80 rfl ?_
            refine zV_aload_n d_Mo_put_81 rfl ?_
            refine zS_get d_Mo_put_82 f_Mo_103 rfl rfl ?_
            rw [show (zup (zup (zup mem 82 (mem 80 2) k) 83 (mem 80 2) b) 84 (mem 80 2) c) 80 2 = (mem 80 2) from (zup_c (by omega)).trans ((zup_c (by omega)).trans (zup_c (by omega)))]
            refine zS_invvE (mt' := m_Mo_name) (avs := [(0, (mem 80 2))]) (st := []) d_Mo_put_85 l_Mo_109 k_Mo_name rfl rfl rfl rfl rfl (s_Mo_name (zup (zup (zup mem 82 (mem 80 2) k) 83 (mem 80 2) b) 84 (mem 80 2) c) (mem 80 2) (by omega)) ?_
            show zS zT m_Mo_put (0, 0) 88 [some (2, 80), some (0, k), some (0, b), some (0, c)] [] (nmM (zup (zup (zup mem 82 (mem 80 2) k) 83 (mem 80 2) b) 84 (mem 80 2) c) (mem 80 2)) _
            refine zV_aload_n d_Mo_put_88 rfl ?_
            refine zV_dup d_Mo_put_89 (show (2 : Nat) ≠ 1 by decide) ?_
            refine zS_get d_Mo_put_90 f_Mo_103 rfl rfl ?_
            refine zV_iconst d_Mo_put_93 ?_
            refine zV_iadd d_Mo_put_94 ?_
            refine zS_puti d_Mo_put_95 f_Mo_103 rfl ⟨rfl, rfl⟩ rfl ?_
            refine zV_aload_n d_Mo_put_98 rfl ?_
            refine zV_iconst d_Mo_put_99 ?_
            refine zS_putz d_Mo_put_100 f_Mo_119 rfl ⟨rfl, rfl⟩ rfl (Or.inr rfl) ?_
            refine zV_aload_n d_Mo_put_103 rfl ?_
            refine zS_get d_Mo_put_104 f_Mo_103 rfl rfl ?_
            rw [show (zup (zup (nmM (zup (zup (zup mem 82 (mem 80 2) k) 83 (mem 80 2) b) 84 (mem 80 2) c) (mem 80 2)) 80 2 (((nmM (zup (zup (zup mem 82 (mem 80 2) k) 83 (mem 80 2) b) 84 (mem 80 2) c) (mem 80 2)) 80 2) + 1)) 80 9 1) 80 2 = (((nmM (zup (zup (zup mem 82 (mem 80 2) k) 83 (mem 80 2) b) 84 (mem 80 2) c) (mem 80 2)) 80 2) + 1) from (zup_k (by omega)).trans (zup_s)]
            exact zS_iret d_Mo_put_107 rfl ⟨Nat.zero_le _, Nat.zero_le _⟩ (Or.inr (Or.inr (Or.inr ⟨by omega, by omega, by rw [show (nmM (zup (zup (zup mem 82 (mem 80 2) k) 83 (mem 80 2) b) 84 (mem 80 2) c) (mem 80 2)) 80 2 = mem 80 2 from e9], by rw [show (nmM (zup (zup (zup mem 82 (mem 80 2) k) 83 (mem 80 2) b) 84 (mem 80 2) c) (mem 80 2)) 80 2 = mem 80 2 from e9]; rfl⟩)))
          · refine zV_bipush d_Mo_put_47 ?_
            exact zS_iret d_Mo_put_49 rfl ⟨Nat.zero_le _, Nat.zero_le _⟩ (Or.inr (Or.inr (Or.inl ⟨by omega, by omega, rfl, rfl⟩)))
        · refine zV_bipush d_Mo_put_36 ?_
          exact zS_iret d_Mo_put_38 rfl ⟨Nat.zero_le _, Nat.zero_le _⟩ (Or.inr (Or.inl ⟨by omega, by omega, rfl, rfl⟩))
      · refine zV_bipush d_Mo_put_26 ?_
        exact zS_iret d_Mo_put_28 rfl ⟨Nat.zero_le _, Nat.zero_le _⟩ (Or.inl ⟨by omega, rfl, rfl⟩)
def tk4 (m : zMem) (j : Int) : zMem := zup (zup (zup (zup m 82 j (m 82 (j + 1))) 83 j (m 83 (j + 1))) 84 j (m 84 (j + 1))) 85 j (m 85 (j + 1))
/-- the curves from k up to j have moved ahead -/
def tkW (mem : zMem) (k j : Int) (m : zMem) : Prop := (∀ a, ¬ (82 ≤ a ∧ a ≤ 85) → m a = mem a) ∧ (∀ l a, 82 ≤ a → a ≤ 85 → (l < k ∨ j ≤ l) → m a l = mem a l) ∧ ∀ l a, 82 ≤ a → a ≤ 85 → k ≤ l → l < j → m a l = mem a (l + 1)
theorem tk4_v {m : zMem} {j l a : Int} (ha : 82 ≤ a ∧ a ≤ 85) : tk4 m j a l = if l = j then m a (j + 1) else m a l := by
  have h4 : a = 82 ∨ a = 83 ∨ a = 84 ∨ a = 85 := by omega
  unfold tk4 zup
  by_cases e : l = j
  · rw [if_pos e]
    rcases h4 with rfl | rfl | rfl | rfl <;> simp [e]
  · rw [if_neg e]
    simp [e]
theorem tkW_s {mem m : zMem} {k j : Int} (h : tkW mem k j m) (hj : k ≤ j) : tkW mem k (j + 1) (tk4 m j) := by
  obtain ⟨h1, h2, h3⟩ := h
  refine ⟨fun a q => ?_, fun l a q1 q2 q3 => ?_, fun l a q1 q2 q3 q4 => ?_⟩
  · unfold tk4
    rw [zup_a (by omega), zup_a (by omega), zup_a (by omega), zup_a (by omega)]
    exact h1 a q
  · rw [tk4_v ⟨q1, q2⟩, if_neg (by omega)]
    exact h2 l a q1 q2 (by omega)
  · rw [tk4_v ⟨q1, q2⟩]
    by_cases e : l = j
    · rw [if_pos e, e]
      exact h2 (j + 1) a q1 q2 (by omega)
    · rw [if_neg e]
      exact h3 l a q1 q2 q3 (by omega)
theorem s_Mo_take_l (mem : zMem) (k : Int) (hK : moK mem) (hk : 0 ≤ k ∧ k < mem 80 2) (h1 : mem 80 2 ≠ 1) : ∀ (j : Int) (m : zMem), (k ≤ j ∧ j ≤ mem 80 2 - 1) → (tkW (zup mem 80 2 (mem 80 2 - 1)) k j m) → zS zT m_Mo_take (0, 0) 41 [some (2, 80), some (0, k), some (0, (mem 85 k)), some (0, j)] [] m (zQs (fun r m => (¬ (0 ≤ k ∧ k < mem 80 2) ∧ r = some (0, -101) ∧ m = mem) ∨ ((0 ≤ k ∧ k < mem 80 2) ∧ mem 80 2 = 1 ∧ r = some (0, -103) ∧ m = mem) ∨ ((0 ≤ k ∧ k < mem 80 2) ∧ mem 80 2 ≠ 1 ∧ r = some (0, mem 85 k) ∧ ∃ m1, tkW (zup mem 80 2 (mem 80 2 - 1)) k (mem 80 2 - 1) m1 ∧ m = zup m1 80 9 1))) := by
  intro j m
  obtain ⟨k9, hk9⟩ : ∃ kq : Nat, (mem 80 2 - 1 - j).toNat = kq := ⟨_, rfl⟩
  induction k9 using Nat.strongRecOn generalizing j m with
  | _ k9 ih =>
    intro i0 i1
    have k1 := hK.1
    have e2 : m 80 2 = mem 80 2 - 1 := by rw [i1.1 80 (by omega), zup_s]
    refine zV_iload_n d_Mo_take_41 rfl ?_
    refine zV_aload_n d_Mo_take_42 rfl ?_
    refine zS_get d_Mo_take_43 f_Mo_103 rfl rfl ?_
    refine zV_icmp_ge d_Mo_take_46 (by omega) (by omega) (fun c46 => ?_) (fun c46 => ?_)
    · refine zV_aload_n d_Mo_take_111 rfl ?_
      refine zV_iconst d_Mo_take_112 ?_
      refine zS_putz d_Mo_take_113 f_Mo_119 rfl ⟨rfl, rfl⟩ rfl (Or.inr rfl) ?_
      refine zV_iload_n d_Mo_take_116 rfl ?_
      exact zS_iret d_Mo_take_117 rfl ⟨Nat.zero_le _, Nat.zero_le _⟩ (Or.inr (Or.inr ⟨hk, h1, rfl, m, by rw [show mem 80 2 - 1 = j by omega] at i1 ⊢; exact i1, rfl⟩))
    · refine zV_aload_n d_Mo_take_49 rfl ?_
      refine zS_getr (r := 82) d_Mo_take_50 f_Mo_13 rfl rfl rfl ?_
      refine zV_iload_n d_Mo_take_53 rfl ?_
      refine zV_aload_n d_Mo_take_54 rfl ?_
      refine zS_getr (r := 82) d_Mo_take_55 f_Mo_13 rfl rfl rfl ?_
      refine zV_iload_n d_Mo_take_58 rfl ?_
      refine zV_iconst d_Mo_take_59 ?_
      refine zV_iadd d_Mo_take_60 ?_
      refine zS_iald d_Mo_take_61 rfl rfl ⟨by omega, by omega⟩ ?_
      refine zS_iast d_Mo_take_62 rfl rfl ⟨by omega, by omega⟩ ?_
      refine zV_aload_n d_Mo_take_63 rfl ?_
      refine zS_getr (r := 83) d_Mo_take_64 f_Mo_16 rfl rfl rfl ?_
      refine zV_iload_n d_Mo_take_67 rfl ?_
      refine zV_aload_n d_Mo_take_68 rfl ?_
      refine zS_getr (r := 83) d_Mo_take_69 f_Mo_16 rfl rfl rfl ?_
      refine zV_iload_n d_Mo_take_72 rfl ?_
      refine zV_iconst d_Mo_take_73 ?_
      refine zV_iadd d_Mo_take_74 ?_
      refine zS_iald d_Mo_take_75 rfl rfl ⟨by omega, by omega⟩ ?_
      rw [show (zup m 82 j (m 82 (j + 1))) 83 (j + 1) = (m 83 (j + 1)) from zup_c (by omega)]
      refine zS_iast d_Mo_take_76 rfl rfl ⟨by omega, by omega⟩ ?_
      refine zV_aload_n d_Mo_take_77 rfl ?_
      refine zS_getr (r := 84) d_Mo_take_78 f_Mo_19 rfl rfl rfl ?_
      refine zV_iload_n d_Mo_take_81 rfl ?_
      refine zV_aload_n d_Mo_take_82 rfl ?_
      refine zS_getr (r := 84) d_Mo_take_83 f_Mo_19 rfl rfl rfl ?_
      refine zV_iload_n d_Mo_take_86 rfl ?_
      refine zV_iconst d_Mo_take_87 ?_
      refine zV_iadd d_Mo_take_88 ?_
      refine zS_iald d_Mo_take_89 rfl rfl ⟨by omega, by omega⟩ ?_
      rw [show (zup (zup m 82 j (m 82 (j + 1))) 83 j (m 83 (j + 1))) 84 (j + 1) = (m 84 (j + 1)) from (zup_c (by omega)).trans (zup_c (by omega))]
      refine zS_iast d_Mo_take_90 rfl rfl ⟨by omega, by omega⟩ ?_
      refine zV_aload_n d_Mo_take_91 rfl ?_
      refine zS_getr (r := 85) d_Mo_take_92 f_Mo_22 rfl rfl rfl ?_
      refine zV_iload_n d_Mo_take_95 rfl ?_
      refine zV_aload_n d_Mo_take_96 rfl ?_
      refine zS_getr (r := 85) d_Mo_take_97 f_Mo_22 rfl rfl rfl ?_
      refine zV_iload_n d_Mo_take_100 rfl ?_
      refine zV_iconst d_Mo_take_101 ?_
      refine zV_iadd d_Mo_take_102 ?_
      refine zS_iald d_Mo_take_103 rfl rfl ⟨by omega, by omega⟩ ?_
      rw [show (zup (zup (zup m 82 j (m 82 (j + 1))) 83 j (m 83 (j + 1))) 84 j (m 84 (j + 1))) 85 (j + 1) = (m 85 (j + 1)) from (zup_c (by omega)).trans ((zup_c (by omega)).trans (zup_c (by omega)))]
      refine zS_iast d_Mo_take_104 rfl rfl ⟨by omega, by omega⟩ ?_
      refine zV_iinc (L' := [some (2, 80), some (0, k), some (0, (mem 85 k)), some (0, (j + 1))]) d_Mo_take_105 (by decide) rfl rfl ?_
      refine zV_goto d_Mo_take_108 ?_
      exact ih _ (by omega) (j + 1) (tk4 m j) rfl (by omega) (tkW_s i1 i0.1)
theorem s_Mo_take (mem : zMem) (k : Int) (hk : I32 k) (hK : moK mem) : zF m_Mo_take [(2, 80), (0, k)] mem (fun r m => (¬ (0 ≤ k ∧ k < mem 80 2) ∧ r = some (0, -101) ∧ m = mem) ∨ ((0 ≤ k ∧ k < mem 80 2) ∧ mem 80 2 = 1 ∧ r = some (0, -103) ∧ m = mem) ∨ ((0 ≤ k ∧ k < mem 80 2) ∧ mem 80 2 ≠ 1 ∧ r = some (0, mem 85 k) ∧ ∃ m1, tkW (zup mem 80 2 (mem 80 2 - 1)) k (mem 80 2 - 1) m1 ∧ m = zup m1 80 9 1)) := by
  have k1 := hK.1
  refine zF_of (by decide) (Nat.le_of_ble_eq_true rfl) ?_
  show zS zT m_Mo_take (0, 0) 0 [some (2, 80), some (0, k), none, none] [] mem _
  refine zV_aload_n d_Mo_take_0 rfl ?_
  refine zV_iload_n d_Mo_take_1 rfl ?_
  refine zS_invvE (mt' := m_Mo_isCurve) (avs := [(0, k)]) (st := []) d_Mo_take_2 l_Mo_227 k_Mo_isCurve rfl rfl rfl rfl rfl (s_Mo_isCurve mem k (by omega) (by omega)) ?_
  show zS zT m_Mo_take (0, 0) 5 [some (2, 80), some (0, k), none, none] [(0, (zb (0 ≤ k ∧ k ≤ mem 80 2 - 1)))] mem _
  refine zV_ifb_ne d_Mo_take_5 (fun c5 => ?_) (fun c5 => ?_)
  · refine zV_aload_n d_Mo_take_11 rfl ?_
    refine zS_get d_Mo_take_12 f_Mo_103 rfl rfl ?_
    refine zV_iconst d_Mo_take_15 ?_
    refine zV_icmp_ne d_Mo_take_16 (by omega) (by omega) (fun c16 => ?_) (fun c16 => ?_)
    · refine zV_aload_n d_Mo_take_22 rfl ?_
      refine zS_getr (r := 85) d_Mo_take_23 f_Mo_22 rfl rfl rfl ?_
      refine zV_iload_n d_Mo_take_26 rfl ?_
      refine zS_iald d_Mo_take_27 rfl rfl ⟨by omega, by omega⟩ ?_
      refine zV_istore_n (L' := [some (2, 80), some (0, k), some (0, (mem 85 k)), none]) d_Mo_take_28 (by decide) rfl ?_
      refine zV_aload_n d_Mo_take_29 rfl ?_
      refine zV_dup d_Mo_take_30 (show (2 : Nat) ≠ 1 by decide) ?_
      refine zS_get d_Mo_take_31 f_Mo_103 rfl rfl ?_
      refine zV_iconst d_Mo_take_34 ?_
      refine zV_isub d_Mo_take_35 ?_
      refine zS_puti d_Mo_take_36 f_Mo_103 rfl ⟨rfl, rfl⟩ rfl ?_
      refine zV_iload_n d_Mo_take_39 rfl ?_
      refine zV_istore_n (L' := [some (2, 80), some (0, k), some (0, (mem 85 k)), some (0, k)]) d_Mo_take_40 (by decide) rfl ?_
      refine s_Mo_take_l mem k hK (by omega) (by omega) k _ (by omega) ⟨fun _ _ => rfl, fun _ _ _ _ _ => rfl, fun l a q1 q2 q3 q4 => by omega⟩
    · refine zV_bipush d_Mo_take_19 ?_
      exact zS_iret d_Mo_take_21 rfl ⟨Nat.zero_le _, Nat.zero_le _⟩ (Or.inr (Or.inl ⟨by omega, by omega, rfl, rfl⟩))
  · refine zV_bipush d_Mo_take_8 ?_
    exact zS_iret d_Mo_take_10 rfl ⟨Nat.zero_le _, Nat.zero_le _⟩ (Or.inl ⟨by omega, rfl, rfl⟩)
theorem old_1 {m : zMem} : FRT (zup m 80 9 1) := ⟨Or.inr zup_s, fun h => by rw [zup_s] at h; exact absurd h (by decide)⟩
theorem moK_9 {m : zMem} {v : Int} (h : moK m) : moK (zup m 80 9 v) := by
  unfold moK
  rw [zup_k (by decide), zup_a (by decide), zup_a (by decide), zup_a (by decide)]
  exact h
theorem s_Mo_cellsNow (mem : zMem) (hK : moK mem) : zF m_Mo_cellsNow [(2, 80)] mem (fun r m => r = some (0, clA m) ∧ FRm (zup mem 80 9 1) m) := by
  have hK1 := moK_9 (v := 1) hK
  have hO1 := old_1 (m := mem)
  refine zF_of (by decide) (Nat.le_of_ble_eq_true rfl) ?_
  show zS zT m_Mo_cellsNow (0, 0) 0 [some (2, 80)] [] mem _
  refine zV_aload_n d_Mo_cellsNow_0 rfl ?_
  refine zV_iconst d_Mo_cellsNow_1 ?_
  refine zS_putz d_Mo_cellsNow_2 f_Mo_119 rfl ⟨rfl, rfl⟩ rfl (Or.inr rfl) ?_
  refine zV_aload_n d_Mo_cellsNow_5 rfl ?_
  refine zS_invv (mt' := m_Mo_freshen) (avs := []) (st := []) d_Mo_cellsNow_6 l_Mo_217 k_Mo_freshen rfl rfl rfl rfl rfl (s_Mo_freshen (zup mem 80 9 1) hK1 hO1) (fun r9 m1 hq9 => ?_)
  obtain ⟨rfl, hR⟩ := hq9
  show zS zT m_Mo_cellsNow (0, 0) 9 [some (2, 80)] [] m1 _
  refine zV_aload_n d_Mo_cellsNow_9 rfl ?_
  refine zS_invvE (mt' := m_Mo_cellsAll) (avs := []) (st := []) d_Mo_cellsNow_10 l_Mo_272 k_Mo_cellsAll rfl rfl rfl rfl rfl (s_Mo_cellsAll m1 (ML_ok (FRm_K hR hK1) hR.1).2.2.1.1) ?_
  show zS zT m_Mo_cellsNow (0, 0) 13 [some (2, 80)] [(0, (clA m1))] m1 _
  exact zS_iret d_Mo_cellsNow_13 rfl ⟨Nat.zero_le _, Nat.zero_le _⟩ ⟨rfl, hR⟩
theorem moK_u {m : zMem} {a j v : Int} (h : moK m) (hv : (a = 82 → 0 ≤ v ∧ v ≤ 4) ∧ (a = 83 → -9 ≤ v ∧ v ≤ 9) ∧ (a = 84 → -9 ≤ v ∧ v ≤ 9) ∧ (a = 80 → j ≠ 2)) : moK (zup m a j v) := by
  refine ⟨?_, fun k q1 q2 => ?_⟩
  · by_cases e : a = 80
    · rw [e, zup_k (fun z => hv.2.2.2 e z.symm)]; exact h.1
    · rw [zup_c (fun z => e z.symm)]; exact h.1
  · obtain ⟨x1, x2, x3⟩ := h.2 k q1 q2
    unfold zup
    refine ⟨?_, ?_, ?_⟩
    · split
      · rename_i z; exact hv.1 z.1.symm
      · exact x1
    · split
      · rename_i z; exact hv.2.1 z.1.symm
      · exact x2
    · split
      · rename_i z; exact hv.2.2.1 z.1.symm
      · exact x3
theorem s_Mo_move (mem : zMem) (k b c : Int) (hk : I32 k) (hb : I32 b) (hc : I32 c) (hK : moK mem) : zF m_Mo_move [(2, 80), (0, k), (0, b), (0, c)] mem (fun r m => (¬ (0 ≤ k ∧ k < mem 80 2) ∧ r = some (0, -101) ∧ m = mem) ∨ ((0 ≤ k ∧ k < mem 80 2) ∧ ¬ ((-9 ≤ b ∧ b ≤ 9) ∧ (-9 ≤ c ∧ c ≤ 9)) ∧ r = some (0, -102) ∧ m = mem) ∨ ((0 ≤ k ∧ k < mem 80 2) ∧ ((-9 ≤ b ∧ b ≤ 9) ∧ (-9 ≤ c ∧ c ≤ 9)) ∧ r = some (0, clA m) ∧ FRm (zup (zup (zup mem 83 k b) 84 k c) 80 9 1) m)) := by
  have k1 := hK.1
  refine zF_of (by decide) (Nat.le_of_ble_eq_true rfl) ?_
  show zS zT m_Mo_move (0, 0) 0 [some (2, 80), some (0, k), some (0, b), some (0, c)] [] mem _
  refine zV_aload_n d_Mo_move_0 rfl ?_
  refine zV_iload_n d_Mo_move_1 rfl ?_
  refine zS_invvE (mt' := m_Mo_isCurve) (avs := [(0, k)]) (st := []) d_Mo_move_2 l_Mo_227 k_Mo_isCurve rfl rfl rfl rfl rfl (s_Mo_isCurve mem k (by omega) (by omega)) ?_
  show zS zT m_Mo_move (0, 0) 5 [some (2, 80), some (0, k), some (0, b), some (0, c)] [(0, (zb (0 ≤ k ∧ k ≤ mem 80 2 - 1)))] mem _
  refine zV_ifb_ne d_Mo_move_5 (fun c5 => ?_) (fun c5 => ?_)
  · refine zV_iload_n d_Mo_move_11 rfl ?_
    refine zS_invsE (mt' := m_Mo_isNumber) (avs := [(0, b)]) (st := []) d_Mo_move_12 l_Mo_305 k_Mo_isNumber rfl rfl rfl rfl (s_Mo_isNumber mem b (by omega)) ?_
    show zS zT m_Mo_move (0, 0) 15 [some (2, 80), some (0, k), some (0, b), some (0, c)] [(0, (zb (-9 ≤ b ∧ b ≤ 9)))] mem _
    refine zV_ifb_eq d_Mo_move_15 (fun c15 => ?_) (fun c15 => ?_)
    · refine zV_bipush d_Mo_move_25 ?_
      exact zS_iret d_Mo_move_27 rfl ⟨Nat.zero_le _, Nat.zero_le _⟩ (Or.inr (Or.inl ⟨by omega, by omega, rfl, rfl⟩))
    · refine zV_iload_n d_Mo_move_18 rfl ?_
      refine zS_invsE (mt' := m_Mo_isNumber) (avs := [(0, c)]) (st := []) d_Mo_move_19 l_Mo_305 k_Mo_isNumber rfl rfl rfl rfl (s_Mo_isNumber mem c (by omega)) ?_
      show zS zT m_Mo_move (0, 0) 22 [some (2, 80), some (0, k), some (0, b), some (0, c)] [(0, (zb (-9 ≤ c ∧ c ≤ 9)))] mem _
      refine zV_ifb_ne d_Mo_move_22 (fun c22 => ?_) (fun c22 => ?_)
      · refine zV_aload_n d_Mo_move_28 rfl ?_
        refine zS_getr (r := 83) d_Mo_move_29 f_Mo_16 rfl rfl rfl ?_
        refine zV_iload_n d_Mo_move_32 rfl ?_
        refine zV_iload_n d_Mo_move_33 rfl ?_
        refine zS_iast d_Mo_move_34 rfl rfl ⟨by omega, by omega⟩ ?_
        refine zV_aload_n d_Mo_move_35 rfl ?_
        refine zS_getr (r := 84) d_Mo_move_36 f_Mo_19 rfl rfl rfl ?_
        refine zV_iload_n d_Mo_move_39 rfl ?_
        refine zV_iload_n d_Mo_move_40 rfl ?_
        refine zS_iast d_Mo_move_41 rfl rfl ⟨by omega, by omega⟩ ?_
        refine zV_aload_n d_Mo_move_42 rfl ?_
        refine zS_invv (mt' := m_Mo_cellsNow) (avs := []) (st := []) d_Mo_move_43 l_Mo_308 k_Mo_cellsNow rfl rfl rfl rfl rfl (s_Mo_cellsNow (zup (zup mem 83 k b) 84 k c) (moK_u (moK_u hK (by omega)) (by omega))) (fun r9 m1 hq9 => ?_)
        obtain ⟨rfl, hR⟩ := hq9
        show zS zT m_Mo_move (0, 0) 46 [some (2, 80), some (0, k), some (0, b), some (0, c)] [(0, (clA m1))] m1 _
        exact zS_iret d_Mo_move_46 rfl ⟨Nat.zero_le _, Nat.zero_le _⟩ (Or.inr (Or.inr ⟨by omega, by omega, rfl, hR⟩))
      · refine zV_bipush d_Mo_move_25 ?_
        exact zS_iret d_Mo_move_27 rfl ⟨Nat.zero_le _, Nat.zero_le _⟩ (Or.inr (Or.inl ⟨by omega, by omega, rfl, rfl⟩))
  · refine zV_bipush d_Mo_move_8 ?_
    exact zS_iret d_Mo_move_10 rfl ⟨Nat.zero_le _, Nat.zero_le _⟩ (Or.inl ⟨by omega, rfl, rfl⟩)
theorem s_Mo_change (mem : zMem) (i k : Int) (hi : I32 i) (hk : I32 k) (hK : moK mem) : zF m_Mo_change [(2, 80), (0, i), (0, k)] mem (fun r m => (¬ (0 ≤ i ∧ i < mem 80 2) ∧ r = some (0, -101) ∧ m = mem) ∨ ((0 ≤ i ∧ i < mem 80 2) ∧ ¬ (0 ≤ k ∧ k < 5) ∧ r = some (0, -102) ∧ m = mem) ∨ ((0 ≤ i ∧ i < mem 80 2) ∧ (0 ≤ k ∧ k < 5) ∧ r = some (0, mem 82 i) ∧ m = zup (zup mem 82 i k) 80 9 1)) := by
  have k1 := hK.1
  refine zF_of (by decide) (Nat.le_of_ble_eq_true rfl) ?_
  show zS zT m_Mo_change (0, 0) 0 [some (2, 80), some (0, i), some (0, k), none] [] mem _
  refine zV_aload_n d_Mo_change_0 rfl ?_
  refine zV_iload_n d_Mo_change_1 rfl ?_
  refine zS_invvE (mt' := m_Mo_isCurve) (avs := [(0, i)]) (st := []) d_Mo_change_2 l_Mo_227 k_Mo_isCurve rfl rfl rfl rfl rfl (s_Mo_isCurve mem i (by omega) (by omega)) ?_
  show zS zT m_Mo_change (0, 0) 5 [some (2, 80), some (0, i), some (0, k), none] [(0, (zb (0 ≤ i ∧ i ≤ mem 80 2 - 1)))] mem _
  refine zV_ifb_ne d_Mo_change_5 (fun c5 => ?_) (fun c5 => ?_)
  · refine zV_iload_n d_Mo_change_11 rfl ?_
    refine zV_i2l d_Mo_change_12 (by omega) ?_
    refine zV_lconst0 d_Mo_change_13 ?_
    refine zV_ldc2 (a := 4) d_Mo_change_14 n_Mo_284 rfl ?_
    refine zS_invsE (mt' := m_Mo_in) (avs := [(1, k), (1, 0), (1, 4)]) (st := []) d_Mo_change_17 l_Mo_80 k_Mo_in rfl rfl rfl rfl (s_Mo_in mem k 0 4 (by omega) (by omega) (by omega)) ?_
    show zS zT m_Mo_change (0, 0) 20 [some (2, 80), some (0, i), some (0, k), none] [(0, (zb (0 ≤ k ∧ k ≤ 4)))] mem _
    refine zV_ifb_ne d_Mo_change_20 (fun c20 => ?_) (fun c20 => ?_)
    · refine zV_aload_n d_Mo_change_26 rfl ?_
      refine zS_getr (r := 82) d_Mo_change_27 f_Mo_13 rfl rfl rfl ?_
      refine zV_iload_n d_Mo_change_30 rfl ?_
      refine zS_iald d_Mo_change_31 rfl rfl ⟨by omega, by omega⟩ ?_
      refine zV_istore_n (L' := [some (2, 80), some (0, i), some (0, k), some (0, (mem 82 i))]) d_Mo_change_32 (by decide) rfl ?_
      refine zV_aload_n d_Mo_change_33 rfl ?_
      refine zS_getr (r := 82) d_Mo_change_34 f_Mo_13 rfl rfl rfl ?_
      refine zV_iload_n d_Mo_change_37 rfl ?_
      refine zV_iload_n d_Mo_change_38 rfl ?_
      refine zS_iast d_Mo_change_39 rfl rfl ⟨by omega, by omega⟩ ?_
      refine zV_aload_n d_Mo_change_40 rfl ?_
      refine zV_iconst d_Mo_change_41 ?_
      refine zS_putz d_Mo_change_42 f_Mo_119 rfl ⟨rfl, rfl⟩ rfl (Or.inr rfl) ?_
      refine zV_iload_n d_Mo_change_45 rfl ?_
      exact zS_iret d_Mo_change_46 rfl ⟨Nat.zero_le _, Nat.zero_le _⟩ (Or.inr (Or.inr ⟨by omega, by omega, rfl, rfl⟩))
    · refine zV_bipush d_Mo_change_23 ?_
      exact zS_iret d_Mo_change_25 rfl ⟨Nat.zero_le _, Nat.zero_le _⟩ (Or.inr (Or.inl ⟨by omega, by omega, rfl, rfl⟩))
  · refine zV_bipush d_Mo_change_8 ?_
    exact zS_iret d_Mo_change_10 rfl ⟨Nat.zero_le _, Nat.zero_le _⟩ (Or.inl ⟨by omega, rfl, rfl⟩)
def miM (mem : zMem) (c : Int) (m : zMem) : Prop := (∀ a, a ≠ 83 → a ≠ 84 → m a = mem a) ∧ ∀ l, (m 83 l = if 0 ≤ l ∧ l < c then 0 - mem 83 l else mem 83 l) ∧ (m 84 l = if 0 ≤ l ∧ l < c ∧ mem 82 l = 3 then 0 - mem 84 l else mem 84 l)
theorem miM_s {mem m : zMem} {c v : Int} (h : miM mem c m) (hc : 0 ≤ c) (hv : v = if mem 82 c = 3 then 0 - mem 84 c else mem 84 c) : miM mem (c + 1) (zup (zup m 83 c (0 - m 83 c)) 84 c v) := by
  obtain ⟨h1, h2⟩ := h
  refine ⟨fun a q1 q2 => by rw [zup_a q2, zup_a q1]; exact h1 a q1 q2, fun l => ?_⟩
  obtain ⟨a1, a2⟩ := h2 l
  by_cases e : l = c
  · rw [e] at a1 a2 ⊢
    rw [zup_c (by decide), zup_s, zup_s, a1, if_neg (by omega), if_pos (by omega), hv]
    refine ⟨rfl, ?_⟩
    by_cases f : mem 82 c = 3
    · rw [if_pos f, if_pos (by omega)]
    · rw [if_neg f, if_neg (by omega)]
  · rw [zup_c (by decide), zup_k e, zup_k e, zup_c (by decide), a1, a2]
    refine ⟨?_, ?_⟩
    · by_cases f : 0 ≤ l ∧ l < c
      · rw [if_pos f, if_pos (by omega)]
      · rw [if_neg f, if_neg (by omega)]
    · by_cases f : 0 ≤ l ∧ l < c ∧ mem 82 l = 3
      · rw [if_pos f, if_pos (by omega)]
      · rw [if_neg f, if_neg (by omega)]
theorem miM_K {mem m : zMem} {c : Int} (hK : moK mem) (h : miM mem c m) : moK m := by
  obtain ⟨h1, h2⟩ := h
  refine ⟨by rw [h1 80 (by decide) (by decide)]; exact hK.1, fun k q1 q2 => ?_⟩
  obtain ⟨x1, x2, x3⟩ := hK.2 k q1 q2
  obtain ⟨a1, a2⟩ := h2 k
  refine ⟨by rw [h1 82 (by decide) (by decide)]; exact x1, ?_, ?_⟩
  · rw [a1]; split <;> omega
  · rw [a2]; split <;> omega
theorem s_Mo_mirror_l (mem : zMem) (hK : moK mem) (hne : mem 80 2 ≠ 0) : ∀ (c : Int) (m : zMem), (0 ≤ c ∧ c ≤ mem 80 2) → (miM mem c m) → zS zT m_Mo_mirror (0, 0) 12 [some (2, 80), some (0, c)] [] m (zQs (fun r m => (mem 80 2 = 0 ∧ r = some (0, -103) ∧ m = mem) ∨ (mem 80 2 ≠ 0 ∧ r = some (0, clA m) ∧ ∃ m1, miM mem (mem 80 2) m1 ∧ FRm (zup m1 80 9 1) m))) := by
  intro c m
  obtain ⟨k9, hk9⟩ : ∃ kq : Nat, (mem 80 2 - c).toNat = kq := ⟨_, rfl⟩
  induction k9 using Nat.strongRecOn generalizing c m with
  | _ k9 ih =>
    intro i0 i1
    have k1 := hK.1
    have e2 : m 80 2 = mem 80 2 := by rw [i1.1 80 (by decide) (by decide)]
    have e82 : zup m 83 c (0 - m 83 c) 82 c = mem 82 c := by rw [zup_c (by decide), i1.1 82 (by decide) (by decide)]
    have e84 : m 84 c = mem 84 c := by rw [(i1.2 c).2, if_neg (by omega)]
    have b83 : c < mem 80 2 → -9 ≤ 0 - m 83 c ∧ 0 - m 83 c ≤ 9 := fun q => by have := ((miM_K hK i1).2 c i0.1 (by omega)).2.1; omega
    refine zV_iload_n d_Mo_mirror_12 rfl ?_
    refine zV_aload_n d_Mo_mirror_13 rfl ?_
    refine zS_get d_Mo_mirror_14 f_Mo_103 rfl rfl ?_
    refine zV_icmp_ge d_Mo_mirror_17 (by omega) (by omega) (fun c17 => ?_) (fun c17 => ?_)
    · refine zV_aload_n d_Mo_mirror_71 rfl ?_
      refine zS_invv (mt' := m_Mo_cellsNow) (avs := []) (st := []) d_Mo_mirror_72 l_Mo_308 k_Mo_cellsNow rfl rfl rfl rfl rfl (s_Mo_cellsNow m (miM_K hK i1)) (fun r9 m1 hq9 => ?_)
      obtain ⟨rfl, hR⟩ := hq9
      show zS zT m_Mo_mirror (0, 0) 75 [some (2, 80), some (0, c)] [(0, (clA m1))] m1 _
      exact zS_iret d_Mo_mirror_75 rfl ⟨Nat.zero_le _, Nat.zero_le _⟩ (Or.inr ⟨hne, rfl, m, by rw [show mem 80 2 = c by omega]; exact i1, hR⟩)
    · refine zV_aload_n d_Mo_mirror_20 rfl ?_
      refine zS_getr (r := 83) d_Mo_mirror_21 f_Mo_16 rfl rfl rfl ?_
      refine zV_iload_n d_Mo_mirror_24 rfl ?_
      refine zV_iconst d_Mo_mirror_25 ?_
      refine zV_aload_n d_Mo_mirror_26 rfl ?_
      refine zS_getr (r := 83) d_Mo_mirror_27 f_Mo_16 rfl rfl rfl ?_
      refine zV_iload_n d_Mo_mirror_30 rfl ?_
      refine zS_iald d_Mo_mirror_31 rfl rfl ⟨by omega, by omega⟩ ?_
      refine zV_isub d_Mo_mirror_32 ?_
      refine zS_iast d_Mo_mirror_33 rfl rfl ⟨by omega, by omega⟩ ?_
      refine zV_aload_n d_Mo_mirror_34 rfl ?_
      refine zS_getr (r := 84) d_Mo_mirror_35 f_Mo_19 rfl rfl rfl ?_
      refine zV_iload_n d_Mo_mirror_38 rfl ?_
      refine zV_aload_n d_Mo_mirror_39 rfl ?_
      refine zV_iload_n d_Mo_mirror_40 rfl ?_
      refine zS_invvE (mt' := m_Mo_isFlat) (avs := [(0, c)]) (st := [(0, c), (2, 84)]) d_Mo_mirror_41 l_Mo_173 k_Mo_isFlat rfl rfl rfl rfl rfl (s_Mo_isFlat (zup m 83 c (0 - (m 83 c))) c (moK_u (miM_K hK i1) (by have := b83; omega)) (by omega)) ?_
      show zS zT m_Mo_mirror (0, 0) 44 [some (2, 80), some (0, c)] [(0, (zb ((zup m 83 c (0 - (m 83 c))) 82 c = 3))), (0, c), (2, 84)] (zup m 83 c (0 - (m 83 c))) _
      refine zV_ifb_eq d_Mo_mirror_44 (fun c44 => ?_) (fun c44 => ?_)
      · refine zV_aload_n d_Mo_mirror_58 rfl ?_
        refine zS_getr (r := 84) d_Mo_mirror_59 f_Mo_19 rfl rfl rfl ?_
        refine zV_iload_n d_Mo_mirror_62 rfl ?_
        refine zS_iald d_Mo_mirror_63 rfl rfl ⟨by omega, by omega⟩ ?_
        rw [show (zup m 83 c (0 - (m 83 c))) 84 c = (m 84 c) from zup_c (by omega)]
        refine zS_iast d_Mo_mirror_64 rfl rfl ⟨by omega, by omega⟩ ?_
        refine zV_iinc (L' := [some (2, 80), some (0, (c + 1))]) d_Mo_mirror_65 (by decide) rfl rfl ?_
        refine zV_goto d_Mo_mirror_68 ?_
        refine ih _ (by omega) (c + 1) _ rfl (by omega) (miM_s (v := (m 84 c)) i1 i0.1 ?_)
        rw [e84]
        first | rw [if_pos (show mem 82 c = 3 by rw [← e82]; assumption)] | rw [if_neg (show ¬ mem 82 c = 3 by rw [← e82]; assumption)]
      · refine zV_iconst d_Mo_mirror_47 ?_
        refine zV_aload_n d_Mo_mirror_48 rfl ?_
        refine zS_getr (r := 84) d_Mo_mirror_49 f_Mo_19 rfl rfl rfl ?_
        refine zV_iload_n d_Mo_mirror_52 rfl ?_
        refine zS_iald d_Mo_mirror_53 rfl rfl ⟨by omega, by omega⟩ ?_
        rw [show (zup m 83 c (0 - (m 83 c))) 84 c = (m 84 c) from zup_c (by omega)]
        refine zV_isub d_Mo_mirror_54 ?_
        refine zV_goto d_Mo_mirror_55 ?_
        refine zS_iast d_Mo_mirror_64 rfl rfl ⟨by omega, by omega⟩ ?_
        refine zV_iinc (L' := [some (2, 80), some (0, (c + 1))]) d_Mo_mirror_65 (by decide) rfl rfl ?_
        refine zV_goto d_Mo_mirror_68 ?_
        refine ih _ (by omega) (c + 1) _ rfl (by omega) (miM_s (v := (0 - (m 84 c))) i1 i0.1 ?_)
        rw [e84]
        first | rw [if_pos (show mem 82 c = 3 by rw [← e82]; assumption)] | rw [if_neg (show ¬ mem 82 c = 3 by rw [← e82]; assumption)]
theorem s_Mo_mirror (mem : zMem) (hK : moK mem) : zF m_Mo_mirror [(2, 80)] mem (fun r m => (mem 80 2 = 0 ∧ r = some (0, -103) ∧ m = mem) ∨ (mem 80 2 ≠ 0 ∧ r = some (0, clA m) ∧ ∃ m1, miM mem (mem 80 2) m1 ∧ FRm (zup m1 80 9 1) m)) := by
  have k1 := hK.1
  refine zF_of (by decide) (Nat.le_of_ble_eq_true rfl) ?_
  show zS zT m_Mo_mirror (0, 0) 0 [some (2, 80), none] [] mem _
  refine zV_aload_n d_Mo_mirror_0 rfl ?_
  refine zS_invvE (mt' := m_Mo_lacks) (avs := []) (st := []) d_Mo_mirror_1 l_Mo_213 k_Mo_lacks rfl rfl rfl rfl rfl (s_Mo_lacks mem (by omega)) ?_
  show zS zT m_Mo_mirror (0, 0) 4 [some (2, 80), none] [(0, (zb (mem 80 2 = 0)))] mem _
  refine zV_ifb_eq d_Mo_mirror_4 (fun c4 => ?_) (fun c4 => ?_)
  · refine zV_iconst d_Mo_mirror_10 ?_
    refine zV_istore_n (L' := [some (2, 80), some (0, 0)]) d_Mo_mirror_11 (by decide) rfl ?_
    exact s_Mo_mirror_l mem hK (by assumption) 0 mem (by omega) ⟨fun _ _ _ => rfl, fun l => ⟨by rw [if_neg (by omega)], by rw [if_neg (by omega)]⟩⟩
  · refine zV_bipush d_Mo_mirror_7 ?_
    exact zS_iret d_Mo_mirror_9 rfl ⟨Nat.zero_le _, Nat.zero_le _⟩ (Or.inl ⟨by assumption, rfl, rfl⟩)
def seA2 (mem : zMem) (k x y h : Int) : zMem := zup (zup (zup (zup (zup mem 94 (4 * mem 80 22) k) 94 (4 * mem 80 22 + 1) x) 94 (4 * mem 80 22 + 2) y) 94 (4 * mem 80 22 + 3) h) 80 22 (mem 80 22 + 1)
theorem s_Mo_see (mem : zMem) (i x y w : Int) (hi : I32 i) (hx : I32 x) (hy : I32 y) (hw : I32 w) (hK : moK mem) (hn : 0 ≤ mem 80 22 ∧ mem 80 22 ≤ 6) : zF m_Mo_see [(2, 80), (0, i), (0, x), (0, y), (0, w)] mem (fun r m => r = some (0, if 0 ≤ i ∧ i < mem 80 2 then (if (-9 ≤ x ∧ x ≤ 9) ∧ (-9 ≤ y ∧ y ≤ 9) ∧ 0 ≤ w ∧ w ≤ 2 then (if mem 80 22 < 6 then mem 80 22 + 1 else -104) else -102) else -101) ∧ m = cif (((0 ≤ i ∧ i < mem 80 2) ∧ (-9 ≤ x ∧ x ≤ 9) ∧ (-9 ≤ y ∧ y ≤ 9) ∧ 0 ≤ w ∧ w ≤ 2) ∧ mem 80 22 < 6) (seA2 mem i x y w) mem) := by
  have k1 := hK.1
  refine zF_of (by decide) (Nat.le_of_ble_eq_true rfl) ?_
  show zS zT m_Mo_see (0, 0) 0 [some (2, 80), some (0, i), some (0, x), some (0, y), some (0, w)] [] mem _
  refine zV_aload_n d_Mo_see_0 rfl ?_
  refine zV_iload_n d_Mo_see_1 rfl ?_
  refine zS_invvE (mt' := m_Mo_isCurve) (avs := [(0, i)]) (st := []) d_Mo_see_2 l_Mo_227 k_Mo_isCurve rfl rfl rfl rfl rfl (s_Mo_isCurve mem i (by omega) (by omega)) ?_
  show zS zT m_Mo_see (0, 0) 5 [some (2, 80), some (0, i), some (0, x), some (0, y), some (0, w)] [(0, (zb (0 ≤ i ∧ i ≤ mem 80 2 - 1)))] mem _
  refine zV_ifb_ne d_Mo_see_5 (fun c5 => ?_) (fun c5 => ?_)
  · refine zV_iload_n d_Mo_see_11 rfl ?_
    refine zS_invsE (mt' := m_Mo_isNumber) (avs := [(0, x)]) (st := []) d_Mo_see_12 l_Mo_305 k_Mo_isNumber rfl rfl rfl rfl (s_Mo_isNumber mem x (by omega)) ?_
    show zS zT m_Mo_see (0, 0) 15 [some (2, 80), some (0, i), some (0, x), some (0, y), some (0, w)] [(0, (zb (-9 ≤ x ∧ x ≤ 9)))] mem _
    refine zV_ifb_eq d_Mo_see_15 (fun c15 => ?_) (fun c15 => ?_)
    · refine zV_bipush d_Mo_see_38 ?_
      exact zS_iret d_Mo_see_40 rfl ⟨Nat.zero_le _, Nat.zero_le _⟩ (by rw [if_pos (by omega), if_neg (by omega), cif_f (by omega)]; exact ⟨rfl, rfl⟩)
    · refine zV_iload_n d_Mo_see_18 rfl ?_
      refine zS_invsE (mt' := m_Mo_isNumber) (avs := [(0, y)]) (st := []) d_Mo_see_19 l_Mo_305 k_Mo_isNumber rfl rfl rfl rfl (s_Mo_isNumber mem y (by omega)) ?_
      show zS zT m_Mo_see (0, 0) 22 [some (2, 80), some (0, i), some (0, x), some (0, y), some (0, w)] [(0, (zb (-9 ≤ y ∧ y ≤ 9)))] mem _
      refine zV_ifb_eq d_Mo_see_22 (fun c22 => ?_) (fun c22 => ?_)
      · refine zV_bipush d_Mo_see_38 ?_
        exact zS_iret d_Mo_see_40 rfl ⟨Nat.zero_le _, Nat.zero_le _⟩ (by rw [if_pos (by omega), if_neg (by omega), cif_f (by omega)]; exact ⟨rfl, rfl⟩)
      · refine zV_iload d_Mo_see_25 rfl ?_
        refine zV_i2l d_Mo_see_27 (by omega) ?_
        refine zV_lconst0 d_Mo_see_28 ?_
        refine zV_ldc2 (a := 2) d_Mo_see_29 n_Mo_150 rfl ?_
        refine zS_invsE (mt' := m_Mo_in) (avs := [(1, w), (1, 0), (1, 2)]) (st := []) d_Mo_see_32 l_Mo_80 k_Mo_in rfl rfl rfl rfl (s_Mo_in mem w 0 2 (by omega) (by omega) (by omega)) ?_
        show zS zT m_Mo_see (0, 0) 35 [some (2, 80), some (0, i), some (0, x), some (0, y), some (0, w)] [(0, (zb (0 ≤ w ∧ w ≤ 2)))] mem _
        refine zV_ifb_ne d_Mo_see_35 (fun c35 => ?_) (fun c35 => ?_)
        · refine zV_aload_n d_Mo_see_41 rfl ?_
          refine zS_get d_Mo_see_42 f_Mo_113 rfl rfl ?_
          refine zV_bipush d_Mo_see_45 ?_
          refine zV_icmp_ne d_Mo_see_47 (by omega) (by omega) (fun c47 => ?_) (fun c47 => ?_)
          · refine zV_aload_n d_Mo_see_53 rfl ?_
            refine zS_getr (r := 94) d_Mo_see_54 f_Mo_50 rfl rfl rfl ?_
            refine zV_iconst d_Mo_see_57 ?_
            refine zV_aload_n d_Mo_see_58 rfl ?_
            refine zS_get d_Mo_see_59 f_Mo_113 rfl rfl ?_
            refine zV_imul d_Mo_see_62 ?_
            refine zV_iload_n d_Mo_see_63 rfl ?_
            refine zS_iast d_Mo_see_64 rfl rfl ⟨by omega, by omega⟩ ?_
            refine zV_aload_n d_Mo_see_65 rfl ?_
            refine zS_getr (r := 94) d_Mo_see_66 f_Mo_50 rfl rfl rfl ?_
            refine zV_iconst d_Mo_see_69 ?_
            refine zV_aload_n d_Mo_see_70 rfl ?_
            refine zS_get d_Mo_see_71 f_Mo_113 rfl rfl ?_
            rw [show (zup mem 94 (4 * (mem 80 22)) i) 80 22 = (mem 80 22) from zup_c (by omega)]
            refine zV_imul d_Mo_see_74 ?_
            refine zV_iconst d_Mo_see_75 ?_
            refine zV_iadd d_Mo_see_76 ?_
            refine zV_iload_n d_Mo_see_77 rfl ?_
            refine zS_iast d_Mo_see_78 rfl rfl ⟨by omega, by omega⟩ ?_
            refine zV_aload_n d_Mo_see_79 rfl ?_
            refine zS_getr (r := 94) d_Mo_see_80 f_Mo_50 rfl rfl rfl ?_
            refine zV_iconst d_Mo_see_83 ?_
            refine zV_aload_n d_Mo_see_84 rfl ?_
            refine zS_get d_Mo_see_85 f_Mo_113 rfl rfl ?_
            rw [show (zup (zup mem 94 (4 * (mem 80 22)) i) 94 ((4 * (mem 80 22)) + 1) x) 80 22 = (mem 80 22) from (zup_c (by omega)).trans (zup_c (by omega))]
            refine zV_imul d_Mo_see_88 ?_
            refine zV_iconst d_Mo_see_89 ?_
            refine zV_iadd d_Mo_see_90 ?_
            refine zV_iload_n d_Mo_see_91 rfl ?_
            refine zS_iast d_Mo_see_92 rfl rfl ⟨by omega, by omega⟩ ?_
            refine zV_aload_n d_Mo_see_93 rfl ?_
            refine zS_getr (r := 94) d_Mo_see_94 f_Mo_50 rfl rfl rfl ?_
            refine zV_iconst d_Mo_see_97 ?_
            refine zV_aload_n d_Mo_see_98 rfl ?_
            refine zS_get d_Mo_see_99 f_Mo_113 rfl rfl ?_
            rw [show (zup (zup (zup mem 94 (4 * (mem 80 22)) i) 94 ((4 * (mem 80 22)) + 1) x) 94 ((4 * (mem 80 22)) + 2) y) 80 22 = (mem 80 22) from (zup_c (by omega)).trans ((zup_c (by omega)).trans (zup_c (by omega)))]
            refine zV_imul d_Mo_see_102 ?_
            refine zV_iconst d_Mo_see_103 ?_
            refine zV_iadd d_Mo_see_104 ?_
            refine zV_iload d_Mo_see_105 rfl ?_
            refine zS_iast d_Mo_see_107 rfl rfl ⟨by omega, by omega⟩ ?_
            refine zV_aload_n d_Mo_see_108 rfl ?_
            refine zV_dup d_Mo_see_109 (show (2 : Nat) ≠ 1 by decide) ?_
            refine zS_get d_Mo_see_110 f_Mo_113 rfl rfl ?_
            rw [show (zup (zup (zup (zup mem 94 (4 * (mem 80 22)) i) 94 ((4 * (mem 80 22)) + 1) x) 94 ((4 * (mem 80 22)) + 2) y) 94 ((4 * (mem 80 22)) + 3) w) 80 22 = (mem 80 22) from (zup_c (by omega)).trans ((zup_c (by omega)).trans ((zup_c (by omega)).trans (zup_c (by omega))))]
            refine zV_iconst d_Mo_see_113 ?_
            refine zV_iadd d_Mo_see_114 ?_
            refine zS_puti d_Mo_see_115 f_Mo_113 rfl ⟨rfl, rfl⟩ rfl ?_
            refine zV_aload_n d_Mo_see_118 rfl ?_
            refine zS_get d_Mo_see_119 f_Mo_113 rfl rfl ?_
            rw [show (zup (zup (zup (zup (zup mem 94 (4 * (mem 80 22)) i) 94 ((4 * (mem 80 22)) + 1) x) 94 ((4 * (mem 80 22)) + 2) y) 94 ((4 * (mem 80 22)) + 3) w) 80 22 ((mem 80 22) + 1)) 80 22 = ((mem 80 22) + 1) from zup_s]
            exact zS_iret d_Mo_see_122 rfl ⟨Nat.zero_le _, Nat.zero_le _⟩ (by rw [if_pos (by omega), if_pos (by omega), if_pos (by omega), cif_t (by omega)]; exact ⟨rfl, rfl⟩)
          · refine zV_bipush d_Mo_see_50 ?_
            exact zS_iret d_Mo_see_52 rfl ⟨Nat.zero_le _, Nat.zero_le _⟩ (by rw [if_pos (by omega), if_pos (by omega), if_neg (by omega), cif_f (by omega)]; exact ⟨rfl, rfl⟩)
        · refine zV_bipush d_Mo_see_38 ?_
          exact zS_iret d_Mo_see_40 rfl ⟨Nat.zero_le _, Nat.zero_le _⟩ (by rw [if_pos (by omega), if_neg (by omega), cif_f (by omega)]; exact ⟨rfl, rfl⟩)
  · refine zV_bipush d_Mo_see_8 ?_
    exact zS_iret d_Mo_see_10 rfl ⟨Nat.zero_le _, Nat.zero_le _⟩ (by rw [if_neg (by omega), cif_f (by omega)]; exact ⟨rfl, rfl⟩)
