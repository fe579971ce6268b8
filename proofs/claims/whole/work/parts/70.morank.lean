/-! the reference: ranks -/
theorem zup_zz {m : zMem} {a k v w : Int} : zup (zup m a k v) a k w = zup m a k w := by
  funext x y
  unfold zup
  split <;> rfl
def fsM (mem : zMem) (out n k : Int) : Prop := ∀ m, 0 ≤ m → m < k → m ≠ out → mem 82 m ≠ 3 → dfM mem m k (20 + n) ≠ 0
noncomputable def byM (mem : zMem) (out n m k : Int) : Int := cif (m ≠ out ∧ mem 82 m ≠ 3 ∧ k ≠ out ∧ mem 82 k ≠ 3) (dfM mem m k (20 + n)) 1
noncomputable def rkM (mem : zMem) (out n k : Int) : Int := zsm (fun m => zb (byM mem out n m k < 0 ∧ fsM mem out n m)) (mem 80 2 - 0).toNat 0
def fsG (mem : zMem) (out n k c : Int) : Prop := (k ≠ out ∧ mem 82 k ≠ 3) ∧ ∀ j, 0 ≤ j → j < c → j < k → byM mem out n j k ≠ 0
noncomputable def scM (mem : zMem) (out n : Int) : Int := zsm (fun k => zb (fsG mem out n k (mem 80 2))) (mem 80 2 - 0).toNat 0
theorem fsG_s {mem : zMem} {out n k c : Int} (h : 0 ≤ c) : fsG mem out n k (c + 1) ↔ (fsG mem out n k c ∧ (c < k → byM mem out n c k ≠ 0)) := by
  constructor
  · rintro ⟨a, b⟩
    exact ⟨⟨a, fun j q1 q2 q3 => b j q1 (by omega) q3⟩, fun q => b c h (by omega) q⟩
  · rintro ⟨⟨a, b⟩, c1⟩
    refine ⟨a, fun j q1 q2 q3 => ?_⟩
    by_cases e : j = c
    · rw [e]; exact c1 (by omega)
    · exact b j q1 (by omega) q3
def rdE (m0 m : zMem) : Prop := ∀ a, a ≠ 90 → a ≠ 91 → m a = m0 a
theorem rdE_u {m0 m : zMem} {k v : Int} (h : rdE m0 m) : rdE m0 (zup m 90 k v) := fun a q1 q2 => by rw [zup_a q1]; exact h a q1 q2
theorem rdE_K {m0 m : zMem} (h : rdE m0 m) (hK : moK m0) : moK m := by
  unfold moK
  rw [h 82 (by decide) (by decide), h 83 (by decide) (by decide), h 84 (by decide) (by decide), h 80 (by decide) (by decide)]
  exact hK
theorem rdE_P {m0 m : zMem} (h : rdE m0 m) (k : Int) : mP m k = mP m0 k := by
  unfold mP
  rw [h 86 (by decide) (by decide), h 87 (by decide) (by decide), h 88 (by decide) (by decide), h 89 (by decide) (by decide)]
theorem rdE_d {m0 m : zMem} (h : rdE m0 m) (a b k : Int) : dfM m a b k = dfM m0 a b k := by
  unfold dfM
  rw [rdE_P h, h 82 (by decide) (by decide), h 83 (by decide) (by decide), h 84 (by decide) (by decide)]
theorem rdE_f {m0 m : zMem} (h : rdE m0 m) (out n k : Int) : fsM m out n k = fsM m0 out n k := by
  unfold fsM
  rw [h 82 (by decide) (by decide)]
  simp only [rdE_d h]
def dBs (m : zMem) : Prop := (0 ≤ m 80 15 ∧ m 80 15 ≤ 25) ∧ ∀ n, 0 ≤ n → n < m 80 15 → dB (mP m (20 + n))
theorem rdE_b {m0 m : zMem} (h : rdE m0 m) (hB : dBs m0) : dBs m := by
  unfold dBs
  rw [h 80 (by decide) (by decide)]
  simp only [rdE_P h]
  exact hB
theorem s_Mo_isFirst_l (mem : zMem) (k n out : Int) (hK : moK mem) (hB : dBs mem) (hk : 0 ≤ k ∧ k < 4) (hn : 0 ≤ n ∧ n < mem 80 15) (ho : I32 out) : ∀ (c : Int), (0 ≤ c ∧ c ≤ k) → (∀ j, 0 ≤ j → j < c → j ≠ out → mem 82 j ≠ 3 → dfM mem j k (20 + n) ≠ 0) → zS zT m_Mo_isFirst (0, 0) 3 [some (2, 80), some (0, k), some (0, n), some (0, out), some (0, c)] [] mem (zQs (fun r m => r = some (0, zb (fsM mem out n k)) ∧ m = mem)) := by
  intro c
  obtain ⟨k9, hk9⟩ : ∃ kq : Nat, (k - c).toNat = kq := ⟨_, rfl⟩
  induction k9 using Nat.strongRecOn generalizing c with
  | _ k9 ih =>
    intro i0 i1
    have b1 := hB.1
    refine zV_iload d_Mo_isFirst_3 rfl ?_
    refine zV_iload_n d_Mo_isFirst_5 rfl ?_
    refine zV_icmp_ge d_Mo_isFirst_6 (by omega) (by omega) (fun c6 => ?_) (fun c6 => ?_)
    · refine zV_iconst d_Mo_isFirst_46 ?_
      exact zS_zret d_Mo_isFirst_47 rfl ⟨Nat.zero_le _, Nat.zero_le _⟩ (Or.inr rfl) ⟨by rw [zb_t (show fsM mem out n k from fun j q1 q2 => i1 j q1 (by omega))], rfl⟩
    · refine zV_iload d_Mo_isFirst_9 rfl ?_
      refine zV_iload_n d_Mo_isFirst_11 rfl ?_
      refine zV_icmp_eq d_Mo_isFirst_12 (by omega) (by omega) (fun c12 => ?_) (fun c12 => ?_)
      · refine zV_iinc (L' := [some (2, 80), some (0, k), some (0, n), some (0, out), some (0, (c + 1))]) d_Mo_isFirst_40 (by decide) rfl rfl ?_
        refine zV_goto d_Mo_isFirst_43 ?_
        refine ih _ (by omega) (c + 1) rfl (by omega) (fun j q1 q2 q3 q4 => ?_)
        by_cases e : j = c
        · subst e; first | assumption | exact absurd (by assumption) q3 | exact absurd (by assumption) q4
        · exact i1 j q1 (by omega) q3 q4
      · refine zV_aload_n d_Mo_isFirst_15 rfl ?_
        refine zV_iload d_Mo_isFirst_16 rfl ?_
        refine zS_invvE (mt' := m_Mo_isFlat) (avs := [(0, c)]) (st := []) d_Mo_isFirst_18 l_Mo_173 k_Mo_isFlat rfl rfl rfl rfl rfl (s_Mo_isFlat mem c hK (by omega)) ?_
        show zS zT m_Mo_isFirst (0, 0) 21 [some (2, 80), some (0, k), some (0, n), some (0, out), some (0, c)] [(0, (zb (mem 82 c = 3)))] mem _
        refine zV_ifb_ne d_Mo_isFirst_21 (fun c21 => ?_) (fun c21 => ?_)
        · refine zV_iinc (L' := [some (2, 80), some (0, k), some (0, n), some (0, out), some (0, (c + 1))]) d_Mo_isFirst_40 (by decide) rfl rfl ?_
          refine zV_goto d_Mo_isFirst_43 ?_
          refine ih _ (by omega) (c + 1) rfl (by omega) (fun j q1 q2 q3 q4 => ?_)
          by_cases e : j = c
          · subst e; first | assumption | exact absurd (by assumption) q3 | exact absurd (by assumption) q4
          · exact i1 j q1 (by omega) q3 q4
        · refine zV_aload_n d_Mo_isFirst_24 rfl ?_
          refine zV_iload d_Mo_isFirst_25 rfl ?_
          refine zV_iload_n d_Mo_isFirst_27 rfl ?_
          refine zV_bipush d_Mo_isFirst_28 ?_
          refine zV_iload_n d_Mo_isFirst_30 rfl ?_
          refine zV_iadd d_Mo_isFirst_31 ?_
          refine zS_invvE (mt' := m_Mo_difference) (avs := [(0, c), (0, k), (0, (20 + n))]) (st := []) d_Mo_isFirst_32 l_Mo_190 k_Mo_difference rfl rfl rfl rfl rfl (s_Mo_difference mem c k (20 + n) hK (by omega) (by omega) (by omega) (hB.2 n hn.1 hn.2)) ?_
          show zS zT m_Mo_isFirst (0, 0) 35 [some (2, 80), some (0, k), some (0, n), some (0, out), some (0, c)] [(0, (dfM mem c k (20 + n)))] mem _
          refine zV_if_ne d_Mo_isFirst_35 (sg3_i _ _ _) (fun c35 => ?_) (fun c35 => ?_)
          · refine zV_iinc (L' := [some (2, 80), some (0, k), some (0, n), some (0, out), some (0, (c + 1))]) d_Mo_isFirst_40 (by decide) rfl rfl ?_
            refine zV_goto d_Mo_isFirst_43 ?_
            refine ih _ (by omega) (c + 1) rfl (by omega) (fun j q1 q2 q3 q4 => ?_)
            by_cases e : j = c
            · subst e; first | assumption | exact absurd (by assumption) q3 | exact absurd (by assumption) q4
            · exact i1 j q1 (by omega) q3 q4
          · refine zV_iconst d_Mo_isFirst_38 ?_
            exact zS_zret d_Mo_isFirst_39 rfl ⟨Nat.zero_le _, Nat.zero_le _⟩ (Or.inl rfl) ⟨by rw [zb_f (fun z => z c i0.1 (by omega) (by assumption) (by assumption) (by assumption))], rfl⟩
theorem s_Mo_isFirst (mem : zMem) (k n out : Int) (hK : moK mem) (hB : dBs mem) (hk : 0 ≤ k ∧ k < 4) (hn : 0 ≤ n ∧ n < mem 80 15) (ho : I32 out) : zF m_Mo_isFirst [(2, 80), (0, k), (0, n), (0, out)] mem (fun r m => r = some (0, zb (fsM mem out n k)) ∧ m = mem) := by
  refine zF_of (by decide) (Nat.le_of_ble_eq_true rfl) ?_
  show zS zT m_Mo_isFirst (0, 0) 0 [some (2, 80), some (0, k), some (0, n), some (0, out), none] [] mem _
  refine zV_iconst d_Mo_isFirst_0 ?_
  refine zV_istore (L' := [some (2, 80), some (0, k), some (0, n), some (0, out), some (0, 0)]) d_Mo_isFirst_1 (by decide) rfl ?_
  exact s_Mo_isFirst_l mem k n out hK hB hk hn ho 0 (by omega) (fun j q1 q2 => by omega)
theorem e_flat {m0 m : zMem} {k : Int} (h : rdE m0 m) (hK : moK m0) (hk : 0 ≤ k ∧ k < 4) : zF m_Mo_isFlat [(2, 80), (0, k)] m (fun r m9 => r = some (0, zb (m0 82 k = 3)) ∧ m9 = m) := by
  have := s_Mo_isFlat m k (rdE_K h hK) hk
  rw [h 82 (by decide) (by decide)] at this
  exact this
theorem e_diff {m0 m : zMem} {a b k : Int} (h : rdE m0 m) (hK : moK m0) (ha : 0 ≤ a ∧ a < 4) (hb : 0 ≤ b ∧ b < 4) (hk : 0 ≤ k ∧ k < 64) (hD : dB (mP m0 k)) : zF m_Mo_difference [(2, 80), (0, a), (0, b), (0, k)] m (fun r m9 => r = some (0, dfM m0 a b k) ∧ m9 = m) := by
  have := s_Mo_difference m a b k (rdE_K h hK) ha hb hk (by rw [rdE_P h]; exact hD)
  rw [rdE_d h] at this
  exact this
theorem e_first {m0 m : zMem} {k n out : Int} (h : rdE m0 m) (hK : moK m0) (hB : dBs m0) (hk : 0 ≤ k ∧ k < 4) (hn : 0 ≤ n ∧ n < m0 80 15) (ho : I32 out) : zF m_Mo_isFirst [(2, 80), (0, k), (0, n), (0, out)] m (fun r m9 => r = some (0, zb (fsM m0 out n k)) ∧ m9 = m) := by
  have := s_Mo_isFirst m k n out (rdE_K h hK) (rdE_b h hB) hk (by rw [h 80 (by decide) (by decide)]; exact hn) ho
  rw [rdE_f h] at this
  exact this
theorem s_Mo_layRanks_61 (m0 : zMem) (out : Int) (ho : I32 out) (hK : moK m0) (hB : dBs m0) (n : Int) (hn : 0 ≤ n ∧ n < m0 80 15) (m : zMem) (hE : rdE m0 m) (many k : Int) (hk : 0 ≤ k ∧ k < m0 80 2) (q : Int) (Q9 : zQ2) (kk : zS zT m_Mo_layRanks (0, 0) 195 [some (2, 80), some (0, out), some (0, n), some (0, many), some (0, k), some (0, (zb (fsG m0 out n k (m0 80 2)))), none, none, none] [] (zup m 90 ((4 * n) + k) q) (zQs Q9)) : ∀ (c : Int) (acc : Int) (f : Int), (0 ≤ c ∧ c ≤ m0 80 2) → (acc + zsm (fun c => zb (byM m0 out n c k < 0 ∧ fsM m0 out n c)) (m0 80 2 - c).toNat c = q) → (f = zb (fsG m0 out n k c)) → zS zT m_Mo_layRanks (0, 0) 61 [some (2, 80), some (0, out), some (0, n), some (0, many), some (0, k), some (0, f), some (0, c), none, none] [] (zup m 90 ((4 * n) + k) acc) (zQs (Q9)) := by
  intro c acc f
  obtain ⟨k9, hk9⟩ : ∃ kq : Nat, (m0 80 2 - c).toNat = kq := ⟨_, rfl⟩
  induction k9 using Nat.strongRecOn generalizing c acc f with
  | _ k9 ih =>
    intro i0 i1 i2
    have k1 := hK.1
    have b1 := hB.1
    have z0 := zb_01 (fsG m0 out n k c)
    have e80 : ∀ v, zup m 90 ((4 * n) + k) v 80 2 = m0 80 2 := fun v => by rw [zup_c (by decide), hE 80 (by decide) (by decide)]
    have e82 : m 80 2 = m0 80 2 := by rw [hE 80 (by decide) (by decide)]
    refine zV_iload d_Mo_layRanks_61 rfl ?_
    refine zV_aload_n d_Mo_layRanks_63 rfl ?_
    refine zS_get d_Mo_layRanks_64 f_Mo_103 rfl rfl ?_
    rw [show (zup m 90 ((4 * n) + k) acc) 80 2 = (m 80 2) from zup_c (by omega)]
    refine zV_icmp_ge d_Mo_layRanks_67 (by omega) (by omega) (fun c67 => ?_) (fun c67 => ?_)
    · have ec : c = m0 80 2 := by omega
      refine zV_forget (L' := [some (2, 80), some (0, out), some (0, n), some (0, many), some (0, k), some (0, f), none, none, none]) (by simp [zle]) ?_
      rw [zsm_e (n := m0 80 2) (by omega), Int.add_zero] at i1
      rw [i1, i2, ec]
      exact kk
    · refine zV_iload d_Mo_layRanks_70 rfl ?_
      refine zV_iload_n d_Mo_layRanks_72 rfl ?_
      refine zV_icmp_eq d_Mo_layRanks_73 (by omega) (by omega) (fun c73 => ?_) (fun c73 => ?_)
      · refine zV_iconst d_Mo_layRanks_104 ?_
        refine zV_istore (L' := [some (2, 80), some (0, out), some (0, n), some (0, many), some (0, k), some (0, f), some (0, c), some (0, 0), none]) d_Mo_layRanks_105 (by decide) rfl ?_
        refine zV_iload d_Mo_layRanks_107 rfl ?_
        refine zV_if_eq d_Mo_layRanks_109 (by omega) (fun c109 => ?_) (fun c109 => absurd c109 (by omega))
        refine zV_iconst d_Mo_layRanks_127 ?_
        refine zV_istore (L' := [some (2, 80), some (0, out), some (0, n), some (0, many), some (0, k), some (0, f), some (0, c), some (0, 0), some (0, 1)]) d_Mo_layRanks_128 (by decide) rfl ?_
        refine zV_aload_n d_Mo_layRanks_130 rfl ?_
        refine zS_getr (r := 90) d_Mo_layRanks_131 f_Mo_38 rfl rfl rfl ?_
        refine zV_iconst d_Mo_layRanks_134 ?_
        refine zV_iload_n d_Mo_layRanks_135 rfl ?_
        refine zV_imul d_Mo_layRanks_136 ?_
        refine zV_iload d_Mo_layRanks_137 rfl ?_
        refine zV_iadd d_Mo_layRanks_139 ?_
        refine zV_dup2 d_Mo_layRanks_140 (show (0 : Nat) ≠ 1 by decide) (show (2 : Nat) ≠ 1 by decide) ?_
        refine zS_iald d_Mo_layRanks_141 rfl rfl ⟨by omega, by omega⟩ ?_
        rw [show (zup m 90 ((4 * n) + k) acc) 90 ((4 * n) + k) = acc from zup_s]
        refine zV_iload d_Mo_layRanks_142 rfl ?_
        refine zV_if_ge d_Mo_layRanks_144 (by omega) (fun c144 => ?_) (fun c144 => absurd c144 (by omega))
        refine zV_iconst d_Mo_layRanks_162 ?_
        refine zV_iadd d_Mo_layRanks_163 ?_
        refine zS_iast d_Mo_layRanks_164 rfl rfl ⟨by omega, by omega⟩ ?_
        refine zV_iload d_Mo_layRanks_165 rfl ?_
        refine zV_if_eq d_Mo_layRanks_167 (by omega) (fun c167 => ?_) (fun c167 => ?_)
        · refine zV_iconst d_Mo_layRanks_186 ?_
          refine zV_istore (L' := [some (2, 80), some (0, out), some (0, n), some (0, many), some (0, k), some (0, 0), some (0, c), some (0, 0), some (0, 1)]) d_Mo_layRanks_187 (by decide) rfl ?_
          refine zV_iinc (L' := [some (2, 80), some (0, out), some (0, n), some (0, many), some (0, k), some (0, 0), some (0, (c + 1)), some (0, 0), some (0, 1)]) d_Mo_layRanks_189 (by decide) rfl rfl ?_
          refine zV_goto d_Mo_layRanks_192 ?_
          have hby : byM m0 out n c k = 1 := by unfold byM; first | rw [cif_t (show c ≠ out ∧ m0 82 c ≠ 3 ∧ k ≠ out ∧ m0 82 k ≠ 3 by omega)] | rw [cif_f (show ¬ (c ≠ out ∧ m0 82 c ≠ 3 ∧ k ≠ out ∧ m0 82 k ≠ 3) by omega)]
          have hst : acc + zb (byM m0 out n c k < 0 ∧ fsM m0 out n c) = (acc + 0) := by rw [hby]; first | rw [zb_t ⟨by omega, by assumption⟩] | rw [zb_f (fun z => by have := z.1; omega)] | rw [zb_f (fun z => absurd z.2 (by assumption))]
          have hg : 0 = zb (fsG m0 out n k (c + 1)) := by rw [zb_iff (fsG_s i0.1)]; first | (exfalso; omega) | rw [zb_t ⟨zb_1.mp (by omega), fun _ => by omega⟩] | rw [zb_f (fun z => by have z1 := zb_t z.1; omega)] | rw [zb_f (fun z => by have := z.2 (by omega); omega)]
          rw [zup_zz]
          refine zV_forget (L' := [some (2, 80), some (0, out), some (0, n), some (0, many), some (0, k), some (0, 0), some (0, (c + 1)), none, none]) (by simp [zle]) ?_
          refine ih _ (by omega) (c + 1) (acc + 0) 0 rfl (by omega) ?_ hg
          rw [← i1, zsm_s (n := m0 80 2) (i := c) (by omega)]
          omega
        · refine zV_iload d_Mo_layRanks_170 rfl ?_
          refine zV_if_ne d_Mo_layRanks_172 (by omega) (fun c172 => ?_) (fun c172 => absurd c172 (by omega))
          refine zV_iconst d_Mo_layRanks_182 ?_
          refine zV_goto d_Mo_layRanks_183 ?_
          refine zV_istore (L' := [some (2, 80), some (0, out), some (0, n), some (0, many), some (0, k), some (0, 1), some (0, c), some (0, 0), some (0, 1)]) d_Mo_layRanks_187 (by decide) rfl ?_
          refine zV_iinc (L' := [some (2, 80), some (0, out), some (0, n), some (0, many), some (0, k), some (0, 1), some (0, (c + 1)), some (0, 0), some (0, 1)]) d_Mo_layRanks_189 (by decide) rfl rfl ?_
          refine zV_goto d_Mo_layRanks_192 ?_
          have hby : byM m0 out n c k = 1 := by unfold byM; first | rw [cif_t (show c ≠ out ∧ m0 82 c ≠ 3 ∧ k ≠ out ∧ m0 82 k ≠ 3 by omega)] | rw [cif_f (show ¬ (c ≠ out ∧ m0 82 c ≠ 3 ∧ k ≠ out ∧ m0 82 k ≠ 3) by omega)]
          have hst : acc + zb (byM m0 out n c k < 0 ∧ fsM m0 out n c) = (acc + 0) := by rw [hby]; first | rw [zb_t ⟨by omega, by assumption⟩] | rw [zb_f (fun z => by have := z.1; omega)] | rw [zb_f (fun z => absurd z.2 (by assumption))]
          have hg : 1 = zb (fsG m0 out n k (c + 1)) := by rw [zb_iff (fsG_s i0.1)]; first | (exfalso; omega) | rw [zb_t ⟨zb_1.mp (by omega), fun _ => by omega⟩] | rw [zb_f (fun z => by have z1 := zb_t z.1; omega)] | rw [zb_f (fun z => by have := z.2 (by omega); omega)]
          rw [zup_zz]
          refine zV_forget (L' := [some (2, 80), some (0, out), some (0, n), some (0, many), some (0, k), some (0, 1), some (0, (c + 1)), none, none]) (by simp [zle]) ?_
          refine ih _ (by omega) (c + 1) (acc + 0) 1 rfl (by omega) ?_ hg
          rw [← i1, zsm_s (n := m0 80 2) (i := c) (by omega)]
          omega
      · refine zV_aload_n d_Mo_layRanks_76 rfl ?_
        refine zV_iload d_Mo_layRanks_77 rfl ?_
        refine zS_invvE (mt' := m_Mo_isFlat) (avs := [(0, c)]) (st := []) d_Mo_layRanks_79 l_Mo_173 k_Mo_isFlat rfl rfl rfl rfl rfl (e_flat (k := c) (rdE_u hE) hK (by omega)) ?_
        show zS zT m_Mo_layRanks (0, 0) 82 [some (2, 80), some (0, out), some (0, n), some (0, many), some (0, k), some (0, f), some (0, c), none, none] [(0, (zb (m0 82 c = 3)))] (zup m 90 ((4 * n) + k) acc) _
        refine zV_ifb_ne d_Mo_layRanks_82 (fun c82 => ?_) (fun c82 => ?_)
        · refine zV_iconst d_Mo_layRanks_104 ?_
          refine zV_istore (L' := [some (2, 80), some (0, out), some (0, n), some (0, many), some (0, k), some (0, f), some (0, c), some (0, 0), none]) d_Mo_layRanks_105 (by decide) rfl ?_
          refine zV_iload d_Mo_layRanks_107 rfl ?_
          refine zV_if_eq d_Mo_layRanks_109 (by omega) (fun c109 => ?_) (fun c109 => absurd c109 (by omega))
          refine zV_iconst d_Mo_layRanks_127 ?_
          refine zV_istore (L' := [some (2, 80), some (0, out), some (0, n), some (0, many), some (0, k), some (0, f), some (0, c), some (0, 0), some (0, 1)]) d_Mo_layRanks_128 (by decide) rfl ?_
          refine zV_aload_n d_Mo_layRanks_130 rfl ?_
          refine zS_getr (r := 90) d_Mo_layRanks_131 f_Mo_38 rfl rfl rfl ?_
          refine zV_iconst d_Mo_layRanks_134 ?_
          refine zV_iload_n d_Mo_layRanks_135 rfl ?_
          refine zV_imul d_Mo_layRanks_136 ?_
          refine zV_iload d_Mo_layRanks_137 rfl ?_
          refine zV_iadd d_Mo_layRanks_139 ?_
          refine zV_dup2 d_Mo_layRanks_140 (show (0 : Nat) ≠ 1 by decide) (show (2 : Nat) ≠ 1 by decide) ?_
          refine zS_iald d_Mo_layRanks_141 rfl rfl ⟨by omega, by omega⟩ ?_
          rw [show (zup m 90 ((4 * n) + k) acc) 90 ((4 * n) + k) = acc from zup_s]
          refine zV_iload d_Mo_layRanks_142 rfl ?_
          refine zV_if_ge d_Mo_layRanks_144 (by omega) (fun c144 => ?_) (fun c144 => absurd c144 (by omega))
          refine zV_iconst d_Mo_layRanks_162 ?_
          refine zV_iadd d_Mo_layRanks_163 ?_
          refine zS_iast d_Mo_layRanks_164 rfl rfl ⟨by omega, by omega⟩ ?_
          refine zV_iload d_Mo_layRanks_165 rfl ?_
          refine zV_if_eq d_Mo_layRanks_167 (by omega) (fun c167 => ?_) (fun c167 => ?_)
          · refine zV_iconst d_Mo_layRanks_186 ?_
            refine zV_istore (L' := [some (2, 80), some (0, out), some (0, n), some (0, many), some (0, k), some (0, 0), some (0, c), some (0, 0), some (0, 1)]) d_Mo_layRanks_187 (by decide) rfl ?_
            refine zV_iinc (L' := [some (2, 80), some (0, out), some (0, n), some (0, many), some (0, k), some (0, 0), some (0, (c + 1)), some (0, 0), some (0, 1)]) d_Mo_layRanks_189 (by decide) rfl rfl ?_
            refine zV_goto d_Mo_layRanks_192 ?_
            have hby : byM m0 out n c k = 1 := by unfold byM; first | rw [cif_t (show c ≠ out ∧ m0 82 c ≠ 3 ∧ k ≠ out ∧ m0 82 k ≠ 3 by omega)] | rw [cif_f (show ¬ (c ≠ out ∧ m0 82 c ≠ 3 ∧ k ≠ out ∧ m0 82 k ≠ 3) by omega)]
            have hst : acc + zb (byM m0 out n c k < 0 ∧ fsM m0 out n c) = (acc + 0) := by rw [hby]; first | rw [zb_t ⟨by omega, by assumption⟩] | rw [zb_f (fun z => by have := z.1; omega)] | rw [zb_f (fun z => absurd z.2 (by assumption))]
            have hg : 0 = zb (fsG m0 out n k (c + 1)) := by rw [zb_iff (fsG_s i0.1)]; first | (exfalso; omega) | rw [zb_t ⟨zb_1.mp (by omega), fun _ => by omega⟩] | rw [zb_f (fun z => by have z1 := zb_t z.1; omega)] | rw [zb_f (fun z => by have := z.2 (by omega); omega)]
            rw [zup_zz]
            refine zV_forget (L' := [some (2, 80), some (0, out), some (0, n), some (0, many), some (0, k), some (0, 0), some (0, (c + 1)), none, none]) (by simp [zle]) ?_
            refine ih _ (by omega) (c + 1) (acc + 0) 0 rfl (by omega) ?_ hg
            rw [← i1, zsm_s (n := m0 80 2) (i := c) (by omega)]
            omega
          · refine zV_iload d_Mo_layRanks_170 rfl ?_
            refine zV_if_ne d_Mo_layRanks_172 (by omega) (fun c172 => ?_) (fun c172 => absurd c172 (by omega))
            refine zV_iconst d_Mo_layRanks_182 ?_
            refine zV_goto d_Mo_layRanks_183 ?_
            refine zV_istore (L' := [some (2, 80), some (0, out), some (0, n), some (0, many), some (0, k), some (0, 1), some (0, c), some (0, 0), some (0, 1)]) d_Mo_layRanks_187 (by decide) rfl ?_
            refine zV_iinc (L' := [some (2, 80), some (0, out), some (0, n), some (0, many), some (0, k), some (0, 1), some (0, (c + 1)), some (0, 0), some (0, 1)]) d_Mo_layRanks_189 (by decide) rfl rfl ?_
            refine zV_goto d_Mo_layRanks_192 ?_
            have hby : byM m0 out n c k = 1 := by unfold byM; first | rw [cif_t (show c ≠ out ∧ m0 82 c ≠ 3 ∧ k ≠ out ∧ m0 82 k ≠ 3 by omega)] | rw [cif_f (show ¬ (c ≠ out ∧ m0 82 c ≠ 3 ∧ k ≠ out ∧ m0 82 k ≠ 3) by omega)]
            have hst : acc + zb (byM m0 out n c k < 0 ∧ fsM m0 out n c) = (acc + 0) := by rw [hby]; first | rw [zb_t ⟨by omega, by assumption⟩] | rw [zb_f (fun z => by have := z.1; omega)] | rw [zb_f (fun z => absurd z.2 (by assumption))]
            have hg : 1 = zb (fsG m0 out n k (c + 1)) := by rw [zb_iff (fsG_s i0.1)]; first | (exfalso; omega) | rw [zb_t ⟨zb_1.mp (by omega), fun _ => by omega⟩] | rw [zb_f (fun z => by have z1 := zb_t z.1; omega)] | rw [zb_f (fun z => by have := z.2 (by omega); omega)]
            rw [zup_zz]
            refine zV_forget (L' := [some (2, 80), some (0, out), some (0, n), some (0, many), some (0, k), some (0, 1), some (0, (c + 1)), none, none]) (by simp [zle]) ?_
            refine ih _ (by omega) (c + 1) (acc + 0) 1 rfl (by omega) ?_ hg
            rw [← i1, zsm_s (n := m0 80 2) (i := c) (by omega)]
            omega
        · refine zV_iload d_Mo_layRanks_85 rfl ?_
          refine zV_iload_n d_Mo_layRanks_87 rfl ?_
          refine zV_icmp_eq d_Mo_layRanks_88 (by omega) (by omega) (fun c88 => ?_) (fun c88 => ?_)
          · refine zV_iconst d_Mo_layRanks_104 ?_
            refine zV_istore (L' := [some (2, 80), some (0, out), some (0, n), some (0, many), some (0, k), some (0, f), some (0, c), some (0, 0), none]) d_Mo_layRanks_105 (by decide) rfl ?_
            refine zV_iload d_Mo_layRanks_107 rfl ?_
            refine zV_if_eq d_Mo_layRanks_109 (by omega) (fun c109 => ?_) (fun c109 => absurd c109 (by omega))
            refine zV_iconst d_Mo_layRanks_127 ?_
            refine zV_istore (L' := [some (2, 80), some (0, out), some (0, n), some (0, many), some (0, k), some (0, f), some (0, c), some (0, 0), some (0, 1)]) d_Mo_layRanks_128 (by decide) rfl ?_
            refine zV_aload_n d_Mo_layRanks_130 rfl ?_
            refine zS_getr (r := 90) d_Mo_layRanks_131 f_Mo_38 rfl rfl rfl ?_
            refine zV_iconst d_Mo_layRanks_134 ?_
            refine zV_iload_n d_Mo_layRanks_135 rfl ?_
            refine zV_imul d_Mo_layRanks_136 ?_
            refine zV_iload d_Mo_layRanks_137 rfl ?_
            refine zV_iadd d_Mo_layRanks_139 ?_
            refine zV_dup2 d_Mo_layRanks_140 (show (0 : Nat) ≠ 1 by decide) (show (2 : Nat) ≠ 1 by decide) ?_
            refine zS_iald d_Mo_layRanks_141 rfl rfl ⟨by omega, by omega⟩ ?_
            rw [show (zup m 90 ((4 * n) + k) acc) 90 ((4 * n) + k) = acc from zup_s]
            refine zV_iload d_Mo_layRanks_142 rfl ?_
            refine zV_if_ge d_Mo_layRanks_144 (by omega) (fun c144 => ?_) (fun c144 => absurd c144 (by omega))
            refine zV_iconst d_Mo_layRanks_162 ?_
            refine zV_iadd d_Mo_layRanks_163 ?_
            refine zS_iast d_Mo_layRanks_164 rfl rfl ⟨by omega, by omega⟩ ?_
            refine zV_iload d_Mo_layRanks_165 rfl ?_
            refine zV_if_eq d_Mo_layRanks_167 (by omega) (fun c167 => ?_) (fun c167 => ?_)
            · refine zV_iconst d_Mo_layRanks_186 ?_
              refine zV_istore (L' := [some (2, 80), some (0, out), some (0, n), some (0, many), some (0, k), some (0, 0), some (0, c), some (0, 0), some (0, 1)]) d_Mo_layRanks_187 (by decide) rfl ?_
              refine zV_iinc (L' := [some (2, 80), some (0, out), some (0, n), some (0, many), some (0, k), some (0, 0), some (0, (c + 1)), some (0, 0), some (0, 1)]) d_Mo_layRanks_189 (by decide) rfl rfl ?_
              refine zV_goto d_Mo_layRanks_192 ?_
              have hby : byM m0 out n c k = 1 := by unfold byM; first | rw [cif_t (show c ≠ out ∧ m0 82 c ≠ 3 ∧ k ≠ out ∧ m0 82 k ≠ 3 by omega)] | rw [cif_f (show ¬ (c ≠ out ∧ m0 82 c ≠ 3 ∧ k ≠ out ∧ m0 82 k ≠ 3) by omega)]
              have hst : acc + zb (byM m0 out n c k < 0 ∧ fsM m0 out n c) = (acc + 0) := by rw [hby]; first | rw [zb_t ⟨by omega, by assumption⟩] | rw [zb_f (fun z => by have := z.1; omega)] | rw [zb_f (fun z => absurd z.2 (by assumption))]
              have hg : 0 = zb (fsG m0 out n k (c + 1)) := by rw [zb_iff (fsG_s i0.1)]; first | (exfalso; omega) | rw [zb_t ⟨zb_1.mp (by omega), fun _ => by omega⟩] | rw [zb_f (fun z => by have z1 := zb_t z.1; omega)] | rw [zb_f (fun z => by have := z.2 (by omega); omega)]
              rw [zup_zz]
              refine zV_forget (L' := [some (2, 80), some (0, out), some (0, n), some (0, many), some (0, k), some (0, 0), some (0, (c + 1)), none, none]) (by simp [zle]) ?_
              refine ih _ (by omega) (c + 1) (acc + 0) 0 rfl (by omega) ?_ hg
              rw [← i1, zsm_s (n := m0 80 2) (i := c) (by omega)]
              omega
            · refine zV_iload d_Mo_layRanks_170 rfl ?_
              refine zV_if_ne d_Mo_layRanks_172 (by omega) (fun c172 => ?_) (fun c172 => absurd c172 (by omega))
              refine zV_iconst d_Mo_layRanks_182 ?_
              refine zV_goto d_Mo_layRanks_183 ?_
              refine zV_istore (L' := [some (2, 80), some (0, out), some (0, n), some (0, many), some (0, k), some (0, 1), some (0, c), some (0, 0), some (0, 1)]) d_Mo_layRanks_187 (by decide) rfl ?_
              refine zV_iinc (L' := [some (2, 80), some (0, out), some (0, n), some (0, many), some (0, k), some (0, 1), some (0, (c + 1)), some (0, 0), some (0, 1)]) d_Mo_layRanks_189 (by decide) rfl rfl ?_
              refine zV_goto d_Mo_layRanks_192 ?_
              have hby : byM m0 out n c k = 1 := by unfold byM; first | rw [cif_t (show c ≠ out ∧ m0 82 c ≠ 3 ∧ k ≠ out ∧ m0 82 k ≠ 3 by omega)] | rw [cif_f (show ¬ (c ≠ out ∧ m0 82 c ≠ 3 ∧ k ≠ out ∧ m0 82 k ≠ 3) by omega)]
              have hst : acc + zb (byM m0 out n c k < 0 ∧ fsM m0 out n c) = (acc + 0) := by rw [hby]; first | rw [zb_t ⟨by omega, by assumption⟩] | rw [zb_f (fun z => by have := z.1; omega)] | rw [zb_f (fun z => absurd z.2 (by assumption))]
              have hg : 1 = zb (fsG m0 out n k (c + 1)) := by rw [zb_iff (fsG_s i0.1)]; first | (exfalso; omega) | rw [zb_t ⟨zb_1.mp (by omega), fun _ => by omega⟩] | rw [zb_f (fun z => by have z1 := zb_t z.1; omega)] | rw [zb_f (fun z => by have := z.2 (by omega); omega)]
              rw [zup_zz]
              refine zV_forget (L' := [some (2, 80), some (0, out), some (0, n), some (0, many), some (0, k), some (0, 1), some (0, (c + 1)), none, none]) (by simp [zle]) ?_
              refine ih _ (by omega) (c + 1) (acc + 0) 1 rfl (by omega) ?_ hg
              rw [← i1, zsm_s (n := m0 80 2) (i := c) (by omega)]
              omega
          · refine zV_aload_n d_Mo_layRanks_91 rfl ?_
            refine zV_iload d_Mo_layRanks_92 rfl ?_
            refine zS_invvE (mt' := m_Mo_isFlat) (avs := [(0, k)]) (st := []) d_Mo_layRanks_94 l_Mo_173 k_Mo_isFlat rfl rfl rfl rfl rfl (e_flat (k := k) (rdE_u hE) hK (by omega)) ?_
            show zS zT m_Mo_layRanks (0, 0) 97 [some (2, 80), some (0, out), some (0, n), some (0, many), some (0, k), some (0, f), some (0, c), none, none] [(0, (zb (m0 82 k = 3)))] (zup m 90 ((4 * n) + k) acc) _
            refine zV_ifb_ne d_Mo_layRanks_97 (fun c97 => ?_) (fun c97 => ?_)
            · refine zV_iconst d_Mo_layRanks_104 ?_
              refine zV_istore (L' := [some (2, 80), some (0, out), some (0, n), some (0, many), some (0, k), some (0, f), some (0, c), some (0, 0), none]) d_Mo_layRanks_105 (by decide) rfl ?_
              refine zV_iload d_Mo_layRanks_107 rfl ?_
              refine zV_if_eq d_Mo_layRanks_109 (by omega) (fun c109 => ?_) (fun c109 => absurd c109 (by omega))
              refine zV_iconst d_Mo_layRanks_127 ?_
              refine zV_istore (L' := [some (2, 80), some (0, out), some (0, n), some (0, many), some (0, k), some (0, f), some (0, c), some (0, 0), some (0, 1)]) d_Mo_layRanks_128 (by decide) rfl ?_
              refine zV_aload_n d_Mo_layRanks_130 rfl ?_
              refine zS_getr (r := 90) d_Mo_layRanks_131 f_Mo_38 rfl rfl rfl ?_
              refine zV_iconst d_Mo_layRanks_134 ?_
              refine zV_iload_n d_Mo_layRanks_135 rfl ?_
              refine zV_imul d_Mo_layRanks_136 ?_
              refine zV_iload d_Mo_layRanks_137 rfl ?_
              refine zV_iadd d_Mo_layRanks_139 ?_
              refine zV_dup2 d_Mo_layRanks_140 (show (0 : Nat) ≠ 1 by decide) (show (2 : Nat) ≠ 1 by decide) ?_
              refine zS_iald d_Mo_layRanks_141 rfl rfl ⟨by omega, by omega⟩ ?_
              rw [show (zup m 90 ((4 * n) + k) acc) 90 ((4 * n) + k) = acc from zup_s]
              refine zV_iload d_Mo_layRanks_142 rfl ?_
              refine zV_if_ge d_Mo_layRanks_144 (by omega) (fun c144 => ?_) (fun c144 => absurd c144 (by omega))
              refine zV_iconst d_Mo_layRanks_162 ?_
              refine zV_iadd d_Mo_layRanks_163 ?_
              refine zS_iast d_Mo_layRanks_164 rfl rfl ⟨by omega, by omega⟩ ?_
              refine zV_iload d_Mo_layRanks_165 rfl ?_
              refine zV_if_eq d_Mo_layRanks_167 (by omega) (fun c167 => ?_) (fun c167 => ?_)
              · refine zV_iconst d_Mo_layRanks_186 ?_
                refine zV_istore (L' := [some (2, 80), some (0, out), some (0, n), some (0, many), some (0, k), some (0, 0), some (0, c), some (0, 0), some (0, 1)]) d_Mo_layRanks_187 (by decide) rfl ?_
                refine zV_iinc (L' := [some (2, 80), some (0, out), some (0, n), some (0, many), some (0, k), some (0, 0), some (0, (c + 1)), some (0, 0), some (0, 1)]) d_Mo_layRanks_189 (by decide) rfl rfl ?_
                refine zV_goto d_Mo_layRanks_192 ?_
                have hby : byM m0 out n c k = 1 := by unfold byM; first | rw [cif_t (show c ≠ out ∧ m0 82 c ≠ 3 ∧ k ≠ out ∧ m0 82 k ≠ 3 by omega)] | rw [cif_f (show ¬ (c ≠ out ∧ m0 82 c ≠ 3 ∧ k ≠ out ∧ m0 82 k ≠ 3) by omega)]
                have hst : acc + zb (byM m0 out n c k < 0 ∧ fsM m0 out n c) = (acc + 0) := by rw [hby]; first | rw [zb_t ⟨by omega, by assumption⟩] | rw [zb_f (fun z => by have := z.1; omega)] | rw [zb_f (fun z => absurd z.2 (by assumption))]
                have hg : 0 = zb (fsG m0 out n k (c + 1)) := by rw [zb_iff (fsG_s i0.1)]; first | (exfalso; omega) | rw [zb_t ⟨zb_1.mp (by omega), fun _ => by omega⟩] | rw [zb_f (fun z => by have z1 := zb_t z.1; omega)] | rw [zb_f (fun z => by have := z.2 (by omega); omega)]
                rw [zup_zz]
                refine zV_forget (L' := [some (2, 80), some (0, out), some (0, n), some (0, many), some (0, k), some (0, 0), some (0, (c + 1)), none, none]) (by simp [zle]) ?_
                refine ih _ (by omega) (c + 1) (acc + 0) 0 rfl (by omega) ?_ hg
                rw [← i1, zsm_s (n := m0 80 2) (i := c) (by omega)]
                omega
              · refine zV_iload d_Mo_layRanks_170 rfl ?_
                refine zV_if_ne d_Mo_layRanks_172 (by omega) (fun c172 => ?_) (fun c172 => absurd c172 (by omega))
                refine zV_iconst d_Mo_layRanks_182 ?_
                refine zV_goto d_Mo_layRanks_183 ?_
                refine zV_istore (L' := [some (2, 80), some (0, out), some (0, n), some (0, many), some (0, k), some (0, 1), some (0, c), some (0, 0), some (0, 1)]) d_Mo_layRanks_187 (by decide) rfl ?_
                refine zV_iinc (L' := [some (2, 80), some (0, out), some (0, n), some (0, many), some (0, k), some (0, 1), some (0, (c + 1)), some (0, 0), some (0, 1)]) d_Mo_layRanks_189 (by decide) rfl rfl ?_
                refine zV_goto d_Mo_layRanks_192 ?_
                have hby : byM m0 out n c k = 1 := by unfold byM; first | rw [cif_t (show c ≠ out ∧ m0 82 c ≠ 3 ∧ k ≠ out ∧ m0 82 k ≠ 3 by omega)] | rw [cif_f (show ¬ (c ≠ out ∧ m0 82 c ≠ 3 ∧ k ≠ out ∧ m0 82 k ≠ 3) by omega)]
                have hst : acc + zb (byM m0 out n c k < 0 ∧ fsM m0 out n c) = (acc + 0) := by rw [hby]; first | rw [zb_t ⟨by omega, by assumption⟩] | rw [zb_f (fun z => by have := z.1; omega)] | rw [zb_f (fun z => absurd z.2 (by assumption))]
                have hg : 1 = zb (fsG m0 out n k (c + 1)) := by rw [zb_iff (fsG_s i0.1)]; first | (exfalso; omega) | rw [zb_t ⟨zb_1.mp (by omega), fun _ => by omega⟩] | rw [zb_f (fun z => by have z1 := zb_t z.1; omega)] | rw [zb_f (fun z => by have := z.2 (by omega); omega)]
                rw [zup_zz]
                refine zV_forget (L' := [some (2, 80), some (0, out), some (0, n), some (0, many), some (0, k), some (0, 1), some (0, (c + 1)), none, none]) (by simp [zle]) ?_
                refine ih _ (by omega) (c + 1) (acc + 0) 1 rfl (by omega) ?_ hg
                rw [← i1, zsm_s (n := m0 80 2) (i := c) (by omega)]
                omega
            · refine zV_iconst d_Mo_layRanks_100 ?_
              refine zV_goto d_Mo_layRanks_101 ?_
              refine zV_istore (L' := [some (2, 80), some (0, out), some (0, n), some (0, many), some (0, k), some (0, f), some (0, c), some (0, 1), none]) d_Mo_layRanks_105 (by decide) rfl ?_
              refine zV_iload d_Mo_layRanks_107 rfl ?_
              refine zV_if_eq d_Mo_layRanks_109 (by omega) (fun c109 => absurd c109 (by omega)) (fun c109 => ?_)
              refine zV_aload_n d_Mo_layRanks_112 rfl ?_
              refine zV_iload d_Mo_layRanks_113 rfl ?_
              refine zV_iload d_Mo_layRanks_115 rfl ?_
              refine zV_bipush d_Mo_layRanks_117 ?_
              refine zV_iload_n d_Mo_layRanks_119 rfl ?_
              refine zV_iadd d_Mo_layRanks_120 ?_
              refine zS_invvE (mt' := m_Mo_difference) (avs := [(0, c), (0, k), (0, (20 + n))]) (st := []) d_Mo_layRanks_121 l_Mo_190 k_Mo_difference rfl rfl rfl rfl rfl (e_diff (a := c) (b := k) (k := (20 + n)) (rdE_u hE) hK (by omega) (by omega) (by omega) (hB.2 n hn.1 hn.2)) ?_
              show zS zT m_Mo_layRanks (0, 0) 124 [some (2, 80), some (0, out), some (0, n), some (0, many), some (0, k), some (0, f), some (0, c), some (0, 1), none] [(0, (dfM m0 c k (20 + n)))] (zup m 90 ((4 * n) + k) acc) _
              refine zV_goto d_Mo_layRanks_124 ?_
              refine zV_istore (L' := [some (2, 80), some (0, out), some (0, n), some (0, many), some (0, k), some (0, f), some (0, c), some (0, 1), some (0, (dfM m0 c k (20 + n)))]) d_Mo_layRanks_128 (by decide) rfl ?_
              refine zV_aload_n d_Mo_layRanks_130 rfl ?_
              refine zS_getr (r := 90) d_Mo_layRanks_131 f_Mo_38 rfl rfl rfl ?_
              refine zV_iconst d_Mo_layRanks_134 ?_
              refine zV_iload_n d_Mo_layRanks_135 rfl ?_
              refine zV_imul d_Mo_layRanks_136 ?_
              refine zV_iload d_Mo_layRanks_137 rfl ?_
              refine zV_iadd d_Mo_layRanks_139 ?_
              refine zV_dup2 d_Mo_layRanks_140 (show (0 : Nat) ≠ 1 by decide) (show (2 : Nat) ≠ 1 by decide) ?_
              refine zS_iald d_Mo_layRanks_141 rfl rfl ⟨by omega, by omega⟩ ?_
              rw [show (zup m 90 ((4 * n) + k) acc) 90 ((4 * n) + k) = acc from zup_s]
              refine zV_iload d_Mo_layRanks_142 rfl ?_
              refine zV_if_ge d_Mo_layRanks_144 (sg3_i _ _ _) (fun c144 => ?_) (fun c144 => ?_)
              · refine zV_iconst d_Mo_layRanks_162 ?_
                refine zV_iadd d_Mo_layRanks_163 ?_
                refine zS_iast d_Mo_layRanks_164 rfl rfl ⟨by omega, by omega⟩ ?_
                refine zV_iload d_Mo_layRanks_165 rfl ?_
                refine zV_if_eq d_Mo_layRanks_167 (by omega) (fun c167 => ?_) (fun c167 => ?_)
                · refine zV_iconst d_Mo_layRanks_186 ?_
                  refine zV_istore (L' := [some (2, 80), some (0, out), some (0, n), some (0, many), some (0, k), some (0, 0), some (0, c), some (0, 1), some (0, (dfM m0 c k (20 + n)))]) d_Mo_layRanks_187 (by decide) rfl ?_
                  refine zV_iinc (L' := [some (2, 80), some (0, out), some (0, n), some (0, many), some (0, k), some (0, 0), some (0, (c + 1)), some (0, 1), some (0, (dfM m0 c k (20 + n)))]) d_Mo_layRanks_189 (by decide) rfl rfl ?_
                  refine zV_goto d_Mo_layRanks_192 ?_
                  have hby : byM m0 out n c k = (dfM m0 c k (20 + n)) := by unfold byM; first | rw [cif_t (show c ≠ out ∧ m0 82 c ≠ 3 ∧ k ≠ out ∧ m0 82 k ≠ 3 by omega)] | rw [cif_f (show ¬ (c ≠ out ∧ m0 82 c ≠ 3 ∧ k ≠ out ∧ m0 82 k ≠ 3) by omega)]
                  have hst : acc + zb (byM m0 out n c k < 0 ∧ fsM m0 out n c) = (acc + 0) := by rw [hby]; first | rw [zb_t ⟨by omega, by assumption⟩] | rw [zb_f (fun z => by have := z.1; omega)] | rw [zb_f (fun z => absurd z.2 (by assumption))]
                  have hg : 0 = zb (fsG m0 out n k (c + 1)) := by rw [zb_iff (fsG_s i0.1)]; first | (exfalso; omega) | rw [zb_t ⟨zb_1.mp (by omega), fun _ => by omega⟩] | rw [zb_f (fun z => by have z1 := zb_t z.1; omega)] | rw [zb_f (fun z => by have := z.2 (by omega); omega)]
                  rw [zup_zz]
                  refine zV_forget (L' := [some (2, 80), some (0, out), some (0, n), some (0, many), some (0, k), some (0, 0), some (0, (c + 1)), none, none]) (by simp [zle]) ?_
                  refine ih _ (by omega) (c + 1) (acc + 0) 0 rfl (by omega) ?_ hg
                  rw [← i1, zsm_s (n := m0 80 2) (i := c) (by omega)]
                  omega
                · refine zV_iload d_Mo_layRanks_170 rfl ?_
                  refine zV_if_ne d_Mo_layRanks_172 (sg3_i _ _ _) (fun c172 => ?_) (fun c172 => ?_)
                  · refine zV_iconst d_Mo_layRanks_182 ?_
                    refine zV_goto d_Mo_layRanks_183 ?_
                    refine zV_istore (L' := [some (2, 80), some (0, out), some (0, n), some (0, many), some (0, k), some (0, 1), some (0, c), some (0, 1), some (0, (dfM m0 c k (20 + n)))]) d_Mo_layRanks_187 (by decide) rfl ?_
                    refine zV_iinc (L' := [some (2, 80), some (0, out), some (0, n), some (0, many), some (0, k), some (0, 1), some (0, (c + 1)), some (0, 1), some (0, (dfM m0 c k (20 + n)))]) d_Mo_layRanks_189 (by decide) rfl rfl ?_
                    refine zV_goto d_Mo_layRanks_192 ?_
                    have hby : byM m0 out n c k = (dfM m0 c k (20 + n)) := by unfold byM; first | rw [cif_t (show c ≠ out ∧ m0 82 c ≠ 3 ∧ k ≠ out ∧ m0 82 k ≠ 3 by omega)] | rw [cif_f (show ¬ (c ≠ out ∧ m0 82 c ≠ 3 ∧ k ≠ out ∧ m0 82 k ≠ 3) by omega)]
                    have hst : acc + zb (byM m0 out n c k < 0 ∧ fsM m0 out n c) = (acc + 0) := by rw [hby]; first | rw [zb_t ⟨by omega, by assumption⟩] | rw [zb_f (fun z => by have := z.1; omega)] | rw [zb_f (fun z => absurd z.2 (by assumption))]
                    have hg : 1 = zb (fsG m0 out n k (c + 1)) := by rw [zb_iff (fsG_s i0.1)]; first | (exfalso; omega) | rw [zb_t ⟨zb_1.mp (by omega), fun _ => by omega⟩] | rw [zb_f (fun z => by have z1 := zb_t z.1; omega)] | rw [zb_f (fun z => by have := z.2 (by omega); omega)]
                    rw [zup_zz]
                    refine zV_forget (L' := [some (2, 80), some (0, out), some (0, n), some (0, many), some (0, k), some (0, 1), some (0, (c + 1)), none, none]) (by simp [zle]) ?_
                    refine ih _ (by omega) (c + 1) (acc + 0) 1 rfl (by omega) ?_ hg
                    rw [← i1, zsm_s (n := m0 80 2) (i := c) (by omega)]
                    omega
                  · refine zV_iload d_Mo_layRanks_175 rfl ?_
                    refine zV_iload d_Mo_layRanks_177 rfl ?_
                    refine zV_icmp_lt d_Mo_layRanks_179 (by omega) (by omega) (fun c179 => ?_) (fun c179 => ?_)
                    · refine zV_iconst d_Mo_layRanks_186 ?_
                      refine zV_istore (L' := [some (2, 80), some (0, out), some (0, n), some (0, many), some (0, k), some (0, 0), some (0, c), some (0, 1), some (0, (dfM m0 c k (20 + n)))]) d_Mo_layRanks_187 (by decide) rfl ?_
                      refine zV_iinc (L' := [some (2, 80), some (0, out), some (0, n), some (0, many), some (0, k), some (0, 0), some (0, (c + 1)), some (0, 1), some (0, (dfM m0 c k (20 + n)))]) d_Mo_layRanks_189 (by decide) rfl rfl ?_
                      refine zV_goto d_Mo_layRanks_192 ?_
                      have hby : byM m0 out n c k = (dfM m0 c k (20 + n)) := by unfold byM; first | rw [cif_t (show c ≠ out ∧ m0 82 c ≠ 3 ∧ k ≠ out ∧ m0 82 k ≠ 3 by omega)] | rw [cif_f (show ¬ (c ≠ out ∧ m0 82 c ≠ 3 ∧ k ≠ out ∧ m0 82 k ≠ 3) by omega)]
                      have hst : acc + zb (byM m0 out n c k < 0 ∧ fsM m0 out n c) = (acc + 0) := by rw [hby]; first | rw [zb_t ⟨by omega, by assumption⟩] | rw [zb_f (fun z => by have := z.1; omega)] | rw [zb_f (fun z => absurd z.2 (by assumption))]
                      have hg : 0 = zb (fsG m0 out n k (c + 1)) := by rw [zb_iff (fsG_s i0.1)]; first | (exfalso; omega) | rw [zb_t ⟨zb_1.mp (by omega), fun _ => by omega⟩] | rw [zb_f (fun z => by have z1 := zb_t z.1; omega)] | rw [zb_f (fun z => by have := z.2 (by omega); omega)]
                      rw [zup_zz]
                      refine zV_forget (L' := [some (2, 80), some (0, out), some (0, n), some (0, many), some (0, k), some (0, 0), some (0, (c + 1)), none, none]) (by simp [zle]) ?_
                      refine ih _ (by omega) (c + 1) (acc + 0) 0 rfl (by omega) ?_ hg
                      rw [← i1, zsm_s (n := m0 80 2) (i := c) (by omega)]
                      omega
                    · refine zV_iconst d_Mo_layRanks_182 ?_
                      refine zV_goto d_Mo_layRanks_183 ?_
                      refine zV_istore (L' := [some (2, 80), some (0, out), some (0, n), some (0, many), some (0, k), some (0, 1), some (0, c), some (0, 1), some (0, (dfM m0 c k (20 + n)))]) d_Mo_layRanks_187 (by decide) rfl ?_
                      refine zV_iinc (L' := [some (2, 80), some (0, out), some (0, n), some (0, many), some (0, k), some (0, 1), some (0, (c + 1)), some (0, 1), some (0, (dfM m0 c k (20 + n)))]) d_Mo_layRanks_189 (by decide) rfl rfl ?_
                      refine zV_goto d_Mo_layRanks_192 ?_
                      have hby : byM m0 out n c k = (dfM m0 c k (20 + n)) := by unfold byM; first | rw [cif_t (show c ≠ out ∧ m0 82 c ≠ 3 ∧ k ≠ out ∧ m0 82 k ≠ 3 by omega)] | rw [cif_f (show ¬ (c ≠ out ∧ m0 82 c ≠ 3 ∧ k ≠ out ∧ m0 82 k ≠ 3) by omega)]
                      have hst : acc + zb (byM m0 out n c k < 0 ∧ fsM m0 out n c) = (acc + 0) := by rw [hby]; first | rw [zb_t ⟨by omega, by assumption⟩] | rw [zb_f (fun z => by have := z.1; omega)] | rw [zb_f (fun z => absurd z.2 (by assumption))]
                      have hg : 1 = zb (fsG m0 out n k (c + 1)) := by rw [zb_iff (fsG_s i0.1)]; first | (exfalso; omega) | rw [zb_t ⟨zb_1.mp (by omega), fun _ => by omega⟩] | rw [zb_f (fun z => by have z1 := zb_t z.1; omega)] | rw [zb_f (fun z => by have := z.2 (by omega); omega)]
                      rw [zup_zz]
                      refine zV_forget (L' := [some (2, 80), some (0, out), some (0, n), some (0, many), some (0, k), some (0, 1), some (0, (c + 1)), none, none]) (by simp [zle]) ?_
                      refine ih _ (by omega) (c + 1) (acc + 0) 1 rfl (by omega) ?_ hg
                      rw [← i1, zsm_s (n := m0 80 2) (i := c) (by omega)]
                      omega
              · refine zV_aload_n d_Mo_layRanks_147 rfl ?_
                refine zV_iload d_Mo_layRanks_148 rfl ?_
                refine zV_iload_n d_Mo_layRanks_150 rfl ?_
                refine zV_iload_n d_Mo_layRanks_151 rfl ?_
                refine zS_invvE (mt' := m_Mo_isFirst) (avs := [(0, c), (0, n), (0, out)]) (st := [(0, acc), (0, ((4 * n) + k)), (2, 90)]) d_Mo_layRanks_152 l_Mo_194 k_Mo_isFirst rfl rfl rfl rfl rfl (e_first (k := c) (n := n) (out := out) (rdE_u hE) hK hB (by omega) hn ho) ?_
                show zS zT m_Mo_layRanks (0, 0) 155 [some (2, 80), some (0, out), some (0, n), some (0, many), some (0, k), some (0, f), some (0, c), some (0, 1), some (0, (dfM m0 c k (20 + n)))] [(0, (zb (fsM m0 out n c))), (0, acc), (0, ((4 * n) + k)), (2, 90)] (zup m 90 ((4 * n) + k) acc) _
                refine zV_ifb_eq d_Mo_layRanks_155 (fun c155 => ?_) (fun c155 => ?_)
                · refine zV_iconst d_Mo_layRanks_162 ?_
                  refine zV_iadd d_Mo_layRanks_163 ?_
                  refine zS_iast d_Mo_layRanks_164 rfl rfl ⟨by omega, by omega⟩ ?_
                  refine zV_iload d_Mo_layRanks_165 rfl ?_
                  refine zV_if_eq d_Mo_layRanks_167 (by omega) (fun c167 => ?_) (fun c167 => ?_)
                  · refine zV_iconst d_Mo_layRanks_186 ?_
                    refine zV_istore (L' := [some (2, 80), some (0, out), some (0, n), some (0, many), some (0, k), some (0, 0), some (0, c), some (0, 1), some (0, (dfM m0 c k (20 + n)))]) d_Mo_layRanks_187 (by decide) rfl ?_
                    refine zV_iinc (L' := [some (2, 80), some (0, out), some (0, n), some (0, many), some (0, k), some (0, 0), some (0, (c + 1)), some (0, 1), some (0, (dfM m0 c k (20 + n)))]) d_Mo_layRanks_189 (by decide) rfl rfl ?_
                    refine zV_goto d_Mo_layRanks_192 ?_
                    have hby : byM m0 out n c k = (dfM m0 c k (20 + n)) := by unfold byM; first | rw [cif_t (show c ≠ out ∧ m0 82 c ≠ 3 ∧ k ≠ out ∧ m0 82 k ≠ 3 by omega)] | rw [cif_f (show ¬ (c ≠ out ∧ m0 82 c ≠ 3 ∧ k ≠ out ∧ m0 82 k ≠ 3) by omega)]
                    have hst : acc + zb (byM m0 out n c k < 0 ∧ fsM m0 out n c) = (acc + 0) := by rw [hby]; first | rw [zb_t ⟨by omega, by assumption⟩] | rw [zb_f (fun z => by have := z.1; omega)] | rw [zb_f (fun z => absurd z.2 (by assumption))]
                    have hg : 0 = zb (fsG m0 out n k (c + 1)) := by rw [zb_iff (fsG_s i0.1)]; first | (exfalso; omega) | rw [zb_t ⟨zb_1.mp (by omega), fun _ => by omega⟩] | rw [zb_f (fun z => by have z1 := zb_t z.1; omega)] | rw [zb_f (fun z => by have := z.2 (by omega); omega)]
                    rw [zup_zz]
                    refine zV_forget (L' := [some (2, 80), some (0, out), some (0, n), some (0, many), some (0, k), some (0, 0), some (0, (c + 1)), none, none]) (by simp [zle]) ?_
                    refine ih _ (by omega) (c + 1) (acc + 0) 0 rfl (by omega) ?_ hg
                    rw [← i1, zsm_s (n := m0 80 2) (i := c) (by omega)]
                    omega
                  · refine zV_iload d_Mo_layRanks_170 rfl ?_
                    refine zV_if_ne d_Mo_layRanks_172 (sg3_i _ _ _) (fun c172 => ?_) (fun c172 => ?_)
                    · refine zV_iconst d_Mo_layRanks_182 ?_
                      refine zV_goto d_Mo_layRanks_183 ?_
                      refine zV_istore (L' := [some (2, 80), some (0, out), some (0, n), some (0, many), some (0, k), some (0, 1), some (0, c), some (0, 1), some (0, (dfM m0 c k (20 + n)))]) d_Mo_layRanks_187 (by decide) rfl ?_
                      refine zV_iinc (L' := [some (2, 80), some (0, out), some (0, n), some (0, many), some (0, k), some (0, 1), some (0, (c + 1)), some (0, 1), some (0, (dfM m0 c k (20 + n)))]) d_Mo_layRanks_189 (by decide) rfl rfl ?_
                      refine zV_goto d_Mo_layRanks_192 ?_
                      have hby : byM m0 out n c k = (dfM m0 c k (20 + n)) := by unfold byM; first | rw [cif_t (show c ≠ out ∧ m0 82 c ≠ 3 ∧ k ≠ out ∧ m0 82 k ≠ 3 by omega)] | rw [cif_f (show ¬ (c ≠ out ∧ m0 82 c ≠ 3 ∧ k ≠ out ∧ m0 82 k ≠ 3) by omega)]
                      have hst : acc + zb (byM m0 out n c k < 0 ∧ fsM m0 out n c) = (acc + 0) := by rw [hby]; first | rw [zb_t ⟨by omega, by assumption⟩] | rw [zb_f (fun z => by have := z.1; omega)] | rw [zb_f (fun z => absurd z.2 (by assumption))]
                      have hg : 1 = zb (fsG m0 out n k (c + 1)) := by rw [zb_iff (fsG_s i0.1)]; first | (exfalso; omega) | rw [zb_t ⟨zb_1.mp (by omega), fun _ => by omega⟩] | rw [zb_f (fun z => by have z1 := zb_t z.1; omega)] | rw [zb_f (fun z => by have := z.2 (by omega); omega)]
                      rw [zup_zz]
                      refine zV_forget (L' := [some (2, 80), some (0, out), some (0, n), some (0, many), some (0, k), some (0, 1), some (0, (c + 1)), none, none]) (by simp [zle]) ?_
                      refine ih _ (by omega) (c + 1) (acc + 0) 1 rfl (by omega) ?_ hg
                      rw [← i1, zsm_s (n := m0 80 2) (i := c) (by omega)]
                      omega
                    · refine zV_iload d_Mo_layRanks_175 rfl ?_
                      refine zV_iload d_Mo_layRanks_177 rfl ?_
                      refine zV_icmp_lt d_Mo_layRanks_179 (by omega) (by omega) (fun c179 => ?_) (fun c179 => ?_)
                      · refine zV_iconst d_Mo_layRanks_186 ?_
                        refine zV_istore (L' := [some (2, 80), some (0, out), some (0, n), some (0, many), some (0, k), some (0, 0), some (0, c), some (0, 1), some (0, (dfM m0 c k (20 + n)))]) d_Mo_layRanks_187 (by decide) rfl ?_
                        refine zV_iinc (L' := [some (2, 80), some (0, out), some (0, n), some (0, many), some (0, k), some (0, 0), some (0, (c + 1)), some (0, 1), some (0, (dfM m0 c k (20 + n)))]) d_Mo_layRanks_189 (by decide) rfl rfl ?_
                        refine zV_goto d_Mo_layRanks_192 ?_
                        have hby : byM m0 out n c k = (dfM m0 c k (20 + n)) := by unfold byM; first | rw [cif_t (show c ≠ out ∧ m0 82 c ≠ 3 ∧ k ≠ out ∧ m0 82 k ≠ 3 by omega)] | rw [cif_f (show ¬ (c ≠ out ∧ m0 82 c ≠ 3 ∧ k ≠ out ∧ m0 82 k ≠ 3) by omega)]
                        have hst : acc + zb (byM m0 out n c k < 0 ∧ fsM m0 out n c) = (acc + 0) := by rw [hby]; first | rw [zb_t ⟨by omega, by assumption⟩] | rw [zb_f (fun z => by have := z.1; omega)] | rw [zb_f (fun z => absurd z.2 (by assumption))]
                        have hg : 0 = zb (fsG m0 out n k (c + 1)) := by rw [zb_iff (fsG_s i0.1)]; first | (exfalso; omega) | rw [zb_t ⟨zb_1.mp (by omega), fun _ => by omega⟩] | rw [zb_f (fun z => by have z1 := zb_t z.1; omega)] | rw [zb_f (fun z => by have := z.2 (by omega); omega)]
                        rw [zup_zz]
                        refine zV_forget (L' := [some (2, 80), some (0, out), some (0, n), some (0, many), some (0, k), some (0, 0), some (0, (c + 1)), none, none]) (by simp [zle]) ?_
                        refine ih _ (by omega) (c + 1) (acc + 0) 0 rfl (by omega) ?_ hg
                        rw [← i1, zsm_s (n := m0 80 2) (i := c) (by omega)]
                        omega
                      · refine zV_iconst d_Mo_layRanks_182 ?_
                        refine zV_goto d_Mo_layRanks_183 ?_
                        refine zV_istore (L' := [some (2, 80), some (0, out), some (0, n), some (0, many), some (0, k), some (0, 1), some (0, c), some (0, 1), some (0, (dfM m0 c k (20 + n)))]) d_Mo_layRanks_187 (by decide) rfl ?_
                        refine zV_iinc (L' := [some (2, 80), some (0, out), some (0, n), some (0, many), some (0, k), some (0, 1), some (0, (c + 1)), some (0, 1), some (0, (dfM m0 c k (20 + n)))]) d_Mo_layRanks_189 (by decide) rfl rfl ?_
                        refine zV_goto d_Mo_layRanks_192 ?_
                        have hby : byM m0 out n c k = (dfM m0 c k (20 + n)) := by unfold byM; first | rw [cif_t (show c ≠ out ∧ m0 82 c ≠ 3 ∧ k ≠ out ∧ m0 82 k ≠ 3 by omega)] | rw [cif_f (show ¬ (c ≠ out ∧ m0 82 c ≠ 3 ∧ k ≠ out ∧ m0 82 k ≠ 3) by omega)]
                        have hst : acc + zb (byM m0 out n c k < 0 ∧ fsM m0 out n c) = (acc + 0) := by rw [hby]; first | rw [zb_t ⟨by omega, by assumption⟩] | rw [zb_f (fun z => by have := z.1; omega)] | rw [zb_f (fun z => absurd z.2 (by assumption))]
                        have hg : 1 = zb (fsG m0 out n k (c + 1)) := by rw [zb_iff (fsG_s i0.1)]; first | (exfalso; omega) | rw [zb_t ⟨zb_1.mp (by omega), fun _ => by omega⟩] | rw [zb_f (fun z => by have z1 := zb_t z.1; omega)] | rw [zb_f (fun z => by have := z.2 (by omega); omega)]
                        rw [zup_zz]
                        refine zV_forget (L' := [some (2, 80), some (0, out), some (0, n), some (0, many), some (0, k), some (0, 1), some (0, (c + 1)), none, none]) (by simp [zle]) ?_
                        refine ih _ (by omega) (c + 1) (acc + 0) 1 rfl (by omega) ?_ hg
                        rw [← i1, zsm_s (n := m0 80 2) (i := c) (by omega)]
                        omega
                · refine zV_iconst d_Mo_layRanks_158 ?_
                  refine zV_goto d_Mo_layRanks_159 ?_
                  refine zV_iadd d_Mo_layRanks_163 ?_
                  refine zS_iast d_Mo_layRanks_164 rfl rfl ⟨by omega, by omega⟩ ?_
                  refine zV_iload d_Mo_layRanks_165 rfl ?_
                  refine zV_if_eq d_Mo_layRanks_167 (by omega) (fun c167 => ?_) (fun c167 => ?_)
                  · refine zV_iconst d_Mo_layRanks_186 ?_
                    refine zV_istore (L' := [some (2, 80), some (0, out), some (0, n), some (0, many), some (0, k), some (0, 0), some (0, c), some (0, 1), some (0, (dfM m0 c k (20 + n)))]) d_Mo_layRanks_187 (by decide) rfl ?_
                    refine zV_iinc (L' := [some (2, 80), some (0, out), some (0, n), some (0, many), some (0, k), some (0, 0), some (0, (c + 1)), some (0, 1), some (0, (dfM m0 c k (20 + n)))]) d_Mo_layRanks_189 (by decide) rfl rfl ?_
                    refine zV_goto d_Mo_layRanks_192 ?_
                    have hby : byM m0 out n c k = (dfM m0 c k (20 + n)) := by unfold byM; first | rw [cif_t (show c ≠ out ∧ m0 82 c ≠ 3 ∧ k ≠ out ∧ m0 82 k ≠ 3 by omega)] | rw [cif_f (show ¬ (c ≠ out ∧ m0 82 c ≠ 3 ∧ k ≠ out ∧ m0 82 k ≠ 3) by omega)]
                    have hst : acc + zb (byM m0 out n c k < 0 ∧ fsM m0 out n c) = (acc + 1) := by rw [hby]; first | rw [zb_t ⟨by omega, by assumption⟩] | rw [zb_f (fun z => by have := z.1; omega)] | rw [zb_f (fun z => absurd z.2 (by assumption))]
                    have hg : 0 = zb (fsG m0 out n k (c + 1)) := by rw [zb_iff (fsG_s i0.1)]; first | (exfalso; omega) | rw [zb_t ⟨zb_1.mp (by omega), fun _ => by omega⟩] | rw [zb_f (fun z => by have z1 := zb_t z.1; omega)] | rw [zb_f (fun z => by have := z.2 (by omega); omega)]
                    rw [zup_zz]
                    refine zV_forget (L' := [some (2, 80), some (0, out), some (0, n), some (0, many), some (0, k), some (0, 0), some (0, (c + 1)), none, none]) (by simp [zle]) ?_
                    refine ih _ (by omega) (c + 1) (acc + 1) 0 rfl (by omega) ?_ hg
                    rw [← i1, zsm_s (n := m0 80 2) (i := c) (by omega)]
                    omega
                  · refine zV_iload d_Mo_layRanks_170 rfl ?_
                    refine zV_if_ne d_Mo_layRanks_172 (sg3_i _ _ _) (fun c172 => ?_) (fun c172 => ?_)
                    · refine zV_iconst d_Mo_layRanks_182 ?_
                      refine zV_goto d_Mo_layRanks_183 ?_
                      refine zV_istore (L' := [some (2, 80), some (0, out), some (0, n), some (0, many), some (0, k), some (0, 1), some (0, c), some (0, 1), some (0, (dfM m0 c k (20 + n)))]) d_Mo_layRanks_187 (by decide) rfl ?_
                      refine zV_iinc (L' := [some (2, 80), some (0, out), some (0, n), some (0, many), some (0, k), some (0, 1), some (0, (c + 1)), some (0, 1), some (0, (dfM m0 c k (20 + n)))]) d_Mo_layRanks_189 (by decide) rfl rfl ?_
                      refine zV_goto d_Mo_layRanks_192 ?_
                      have hby : byM m0 out n c k = (dfM m0 c k (20 + n)) := by unfold byM; first | rw [cif_t (show c ≠ out ∧ m0 82 c ≠ 3 ∧ k ≠ out ∧ m0 82 k ≠ 3 by omega)] | rw [cif_f (show ¬ (c ≠ out ∧ m0 82 c ≠ 3 ∧ k ≠ out ∧ m0 82 k ≠ 3) by omega)]
                      have hst : acc + zb (byM m0 out n c k < 0 ∧ fsM m0 out n c) = (acc + 1) := by rw [hby]; first | rw [zb_t ⟨by omega, by assumption⟩] | rw [zb_f (fun z => by have := z.1; omega)] | rw [zb_f (fun z => absurd z.2 (by assumption))]
                      have hg : 1 = zb (fsG m0 out n k (c + 1)) := by rw [zb_iff (fsG_s i0.1)]; first | (exfalso; omega) | rw [zb_t ⟨zb_1.mp (by omega), fun _ => by omega⟩] | rw [zb_f (fun z => by have z1 := zb_t z.1; omega)] | rw [zb_f (fun z => by have := z.2 (by omega); omega)]
                      rw [zup_zz]
                      refine zV_forget (L' := [some (2, 80), some (0, out), some (0, n), some (0, many), some (0, k), some (0, 1), some (0, (c + 1)), none, none]) (by simp [zle]) ?_
                      refine ih _ (by omega) (c + 1) (acc + 1) 1 rfl (by omega) ?_ hg
                      rw [← i1, zsm_s (n := m0 80 2) (i := c) (by omega)]
                      omega
                    · refine zV_iload d_Mo_layRanks_175 rfl ?_
                      refine zV_iload d_Mo_layRanks_177 rfl ?_
                      refine zV_icmp_lt d_Mo_layRanks_179 (by omega) (by omega) (fun c179 => ?_) (fun c179 => ?_)
                      · refine zV_iconst d_Mo_layRanks_186 ?_
                        refine zV_istore (L' := [some (2, 80), some (0, out), some (0, n), some (0, many), some (0, k), some (0, 0), some (0, c), some (0, 1), some (0, (dfM m0 c k (20 + n)))]) d_Mo_layRanks_187 (by decide) rfl ?_
                        refine zV_iinc (L' := [some (2, 80), some (0, out), some (0, n), some (0, many), some (0, k), some (0, 0), some (0, (c + 1)), some (0, 1), some (0, (dfM m0 c k (20 + n)))]) d_Mo_layRanks_189 (by decide) rfl rfl ?_
                        refine zV_goto d_Mo_layRanks_192 ?_
                        have hby : byM m0 out n c k = (dfM m0 c k (20 + n)) := by unfold byM; first | rw [cif_t (show c ≠ out ∧ m0 82 c ≠ 3 ∧ k ≠ out ∧ m0 82 k ≠ 3 by omega)] | rw [cif_f (show ¬ (c ≠ out ∧ m0 82 c ≠ 3 ∧ k ≠ out ∧ m0 82 k ≠ 3) by omega)]
                        have hst : acc + zb (byM m0 out n c k < 0 ∧ fsM m0 out n c) = (acc + 1) := by rw [hby]; first | rw [zb_t ⟨by omega, by assumption⟩] | rw [zb_f (fun z => by have := z.1; omega)] | rw [zb_f (fun z => absurd z.2 (by assumption))]
                        have hg : 0 = zb (fsG m0 out n k (c + 1)) := by rw [zb_iff (fsG_s i0.1)]; first | (exfalso; omega) | rw [zb_t ⟨zb_1.mp (by omega), fun _ => by omega⟩] | rw [zb_f (fun z => by have z1 := zb_t z.1; omega)] | rw [zb_f (fun z => by have := z.2 (by omega); omega)]
                        rw [zup_zz]
                        refine zV_forget (L' := [some (2, 80), some (0, out), some (0, n), some (0, many), some (0, k), some (0, 0), some (0, (c + 1)), none, none]) (by simp [zle]) ?_
                        refine ih _ (by omega) (c + 1) (acc + 1) 0 rfl (by omega) ?_ hg
                        rw [← i1, zsm_s (n := m0 80 2) (i := c) (by omega)]
                        omega
                      · refine zV_iconst d_Mo_layRanks_182 ?_
                        refine zV_goto d_Mo_layRanks_183 ?_
                        refine zV_istore (L' := [some (2, 80), some (0, out), some (0, n), some (0, many), some (0, k), some (0, 1), some (0, c), some (0, 1), some (0, (dfM m0 c k (20 + n)))]) d_Mo_layRanks_187 (by decide) rfl ?_
                        refine zV_iinc (L' := [some (2, 80), some (0, out), some (0, n), some (0, many), some (0, k), some (0, 1), some (0, (c + 1)), some (0, 1), some (0, (dfM m0 c k (20 + n)))]) d_Mo_layRanks_189 (by decide) rfl rfl ?_
                        refine zV_goto d_Mo_layRanks_192 ?_
                        have hby : byM m0 out n c k = (dfM m0 c k (20 + n)) := by unfold byM; first | rw [cif_t (show c ≠ out ∧ m0 82 c ≠ 3 ∧ k ≠ out ∧ m0 82 k ≠ 3 by omega)] | rw [cif_f (show ¬ (c ≠ out ∧ m0 82 c ≠ 3 ∧ k ≠ out ∧ m0 82 k ≠ 3) by omega)]
                        have hst : acc + zb (byM m0 out n c k < 0 ∧ fsM m0 out n c) = (acc + 1) := by rw [hby]; first | rw [zb_t ⟨by omega, by assumption⟩] | rw [zb_f (fun z => by have := z.1; omega)] | rw [zb_f (fun z => absurd z.2 (by assumption))]
                        have hg : 1 = zb (fsG m0 out n k (c + 1)) := by rw [zb_iff (fsG_s i0.1)]; first | (exfalso; omega) | rw [zb_t ⟨zb_1.mp (by omega), fun _ => by omega⟩] | rw [zb_f (fun z => by have z1 := zb_t z.1; omega)] | rw [zb_f (fun z => by have := z.2 (by omega); omega)]
                        rw [zup_zz]
                        refine zV_forget (L' := [some (2, 80), some (0, out), some (0, n), some (0, many), some (0, k), some (0, 1), some (0, (c + 1)), none, none]) (by simp [zle]) ?_
                        refine ih _ (by omega) (c + 1) (acc + 1) 1 rfl (by omega) ?_ hg
                        rw [← i1, zsm_s (n := m0 80 2) (i := c) (by omega)]
                        omega
theorem s_Mo_layRanks_195 (mem : zMem) (out n many k : Int) (G : Prop) (hk : 0 ≤ k ∧ k < 4) (Q9 : zQ2) (kk : zS zT m_Mo_layRanks (0, 0) 15 [some (2, 80), some (0, out), some (0, n), some (0, (many + zb G)), some (0, (k + 1)), none, none, none, none] [] mem (zQs Q9)) : zS zT m_Mo_layRanks (0, 0) 195 [some (2, 80), some (0, out), some (0, n), some (0, many), some (0, k), some (0, (zb G)), none, none, none] [] mem (zQs Q9) := by
  refine zV_iload_n d_Mo_layRanks_195 rfl ?_
  refine zV_iload d_Mo_layRanks_196 rfl ?_
  refine zV_ifb_eq d_Mo_layRanks_198 (fun c198 => ?_) (fun c198 => ?_)
  · refine zV_iconst d_Mo_layRanks_205 ?_
    refine zV_iadd d_Mo_layRanks_206 ?_
    refine zV_istore_n (L' := [some (2, 80), some (0, out), some (0, n), some (0, (many + 0)), some (0, k), some (0, (zb G)), none, none, none]) d_Mo_layRanks_207 (by decide) rfl ?_
    refine zV_iinc (L' := [some (2, 80), some (0, out), some (0, n), some (0, (many + 0)), some (0, (k + 1)), some (0, (zb G)), none, none, none]) d_Mo_layRanks_208 (by decide) rfl rfl ?_
    refine zV_goto d_Mo_layRanks_211 ?_
    rw [show many + zb G = (many + 0) from by first | rw [zb_t (by assumption)] | rw [zb_f (by assumption)]] at kk
    refine zV_forget (L' := [some (2, 80), some (0, out), some (0, n), some (0, (many + 0)), some (0, (k + 1)), none, none, none, none]) (by simp [zle]) ?_
    exact kk
  · refine zV_iconst d_Mo_layRanks_201 ?_
    refine zV_goto d_Mo_layRanks_202 ?_
    refine zV_iadd d_Mo_layRanks_206 ?_
    refine zV_istore_n (L' := [some (2, 80), some (0, out), some (0, n), some (0, (many + 1)), some (0, k), some (0, (zb G)), none, none, none]) d_Mo_layRanks_207 (by decide) rfl ?_
    refine zV_iinc (L' := [some (2, 80), some (0, out), some (0, n), some (0, (many + 1)), some (0, (k + 1)), some (0, (zb G)), none, none, none]) d_Mo_layRanks_208 (by decide) rfl rfl ?_
    refine zV_goto d_Mo_layRanks_211 ?_
    rw [show many + zb G = (many + 1) from by first | rw [zb_t (by assumption)] | rw [zb_f (by assumption)]] at kk
    refine zV_forget (L' := [some (2, 80), some (0, out), some (0, n), some (0, (many + 1)), some (0, (k + 1)), none, none, none, none]) (by simp [zle]) ?_
    exact kk
def RKp (m0 : zMem) (out n k : Int) (m : zMem) : Prop := rdE m0 m ∧ (∀ s, 0 ≤ s → s < n → m 91 s = scM m0 out s) ∧ ∀ s j, 0 ≤ s → 0 ≤ j → j < m0 80 2 → (s < n ∨ s = n ∧ j < k) → m 90 (4 * s + j) = rkM m0 out s j
theorem RKp_s {m0 m : zMem} {out n k : Int} (h : RKp m0 out n k m) (hk : 0 ≤ k ∧ k < 4) (h4 : m0 80 2 ≤ 4) : RKp m0 out n (k + 1) (zup m 90 (4 * n + k) (rkM m0 out n k)) := by
  obtain ⟨h1, h2, h3⟩ := h
  refine ⟨rdE_u h1, fun s q1 q2 => by rw [zup_c (by decide)]; exact h2 s q1 q2, fun s j q1 q2 q3 q4 => ?_⟩
  by_cases e : s = n ∧ j = k
  · rw [e.1, e.2, zup_s]
  · rw [zup_k (by omega)]
    exact h3 s j q1 q2 q3 (by omega)
theorem RKp_n {m0 m : zMem} {out n : Int} (h : RKp m0 out n (m0 80 2) m) : RKp m0 out (n + 1) 0 (zup m 91 n (scM m0 out n)) := by
  obtain ⟨h1, h2, h3⟩ := h
  refine ⟨fun a q1 q2 => by rw [zup_a q2]; exact h1 a q1 q2, fun s q1 q2 => ?_, fun s j q1 q2 q3 q4 => by rw [zup_c (by decide)]; exact h3 s j q1 q2 q3 (by omega)⟩
  by_cases e : s = n
  · rw [e, zup_s]
  · rw [zup_k e]
    exact h2 s q1 (by omega)
theorem s_Mo_layRanks_15 (m0 : zMem) (out : Int) (ho : I32 out) (hK : moK m0) (hB : dBs m0) (n : Int) (hn : 0 ≤ n ∧ n < m0 80 15) (Q9 : zQ2) (kk : ∀ m, RKp m0 out (n + 1) 0 m → zS zT m_Mo_layRanks (0, 0) 2 [some (2, 80), some (0, out), some (0, (n + 1)), none, none, none, none, none, none] [] m (zQs Q9)) : ∀ (k : Int) (many : Int) (m : zMem), (0 ≤ k ∧ k ≤ m0 80 2) → (RKp m0 out n k m) → (many + zsm (fun k => zb (fsG m0 out n k (m0 80 2))) (m0 80 2 - k).toNat k = scM m0 out n) → zS zT m_Mo_layRanks (0, 0) 15 [some (2, 80), some (0, out), some (0, n), some (0, many), some (0, k), none, none, none, none] [] m (zQs (Q9)) := by
  intro k many m
  obtain ⟨k9, hk9⟩ : ∃ kq : Nat, (m0 80 2 - k).toNat = kq := ⟨_, rfl⟩
  induction k9 using Nat.strongRecOn generalizing k many m with
  | _ k9 ih =>
    intro i0 i1 i2
    have k1 := hK.1
    have b1 := hB.1
    have e80 : m 80 2 = m0 80 2 := by rw [i1.1 80 (by decide) (by decide)]
    refine zV_iload d_Mo_layRanks_15 rfl ?_
    refine zV_aload_n d_Mo_layRanks_17 rfl ?_
    refine zS_get d_Mo_layRanks_18 f_Mo_103 rfl rfl ?_
    refine zV_icmp_ge d_Mo_layRanks_21 (by omega) (by omega) (fun c21 => ?_) (fun c21 => ?_)
    · refine zV_aload_n d_Mo_layRanks_214 rfl ?_
      refine zS_getr (r := 91) d_Mo_layRanks_215 f_Mo_41 rfl rfl rfl ?_
      refine zV_iload_n d_Mo_layRanks_218 rfl ?_
      refine zV_iload_n d_Mo_layRanks_219 rfl ?_
      refine zS_iast d_Mo_layRanks_220 rfl rfl ⟨by omega, by omega⟩ ?_
      refine zV_iinc (L' := [some (2, 80), some (0, out), some (0, (n + 1)), some (0, many), some (0, k), none, none, none, none]) d_Mo_layRanks_221 (by decide) rfl rfl ?_
      refine zV_goto d_Mo_layRanks_224 ?_
      rw [zsm_e (n := m0 80 2) (by omega), Int.add_zero] at i2
      refine zV_forget (L' := [some (2, 80), some (0, out), some (0, (n + 1)), none, none, none, none, none, none]) (by simp [zle]) ?_
      refine kk _ ?_
      rw [i2]
      exact RKp_n (by rw [← show k = m0 80 2 by omega]; exact i1)
    · refine zV_aload_n d_Mo_layRanks_24 rfl ?_
      refine zS_getr (r := 90) d_Mo_layRanks_25 f_Mo_38 rfl rfl rfl ?_
      refine zV_iconst d_Mo_layRanks_28 ?_
      refine zV_iload_n d_Mo_layRanks_29 rfl ?_
      refine zV_imul d_Mo_layRanks_30 ?_
      refine zV_iload d_Mo_layRanks_31 rfl ?_
      refine zV_iadd d_Mo_layRanks_33 ?_
      refine zV_iconst d_Mo_layRanks_34 ?_
      refine zS_iast d_Mo_layRanks_35 rfl rfl ⟨by omega, by omega⟩ ?_
      refine zV_iload d_Mo_layRanks_36 rfl ?_
      refine zV_iload_n d_Mo_layRanks_38 rfl ?_
      refine zV_icmp_eq d_Mo_layRanks_39 (by omega) (by omega) (fun c39 => ?_) (fun c39 => ?_)
      · refine zV_iconst d_Mo_layRanks_55 ?_
        refine zV_istore (L' := [some (2, 80), some (0, out), some (0, n), some (0, many), some (0, k), some (0, 0), none, none, none]) d_Mo_layRanks_56 (by decide) rfl ?_
        refine zV_iconst d_Mo_layRanks_58 ?_
        refine zV_istore (L' := [some (2, 80), some (0, out), some (0, n), some (0, many), some (0, k), some (0, 0), some (0, 0), none, none]) d_Mo_layRanks_59 (by decide) rfl ?_
        have hg : 0 = zb (fsG m0 out n k 0) := by first | rw [zb_t ⟨⟨by omega, by omega⟩, fun j q1 q2 => by omega⟩] | rw [zb_f (fun z => by have := z.1; omega)]
        refine zV_forget (L' := [some (2, 80), some (0, out), some (0, n), some (0, many), some (0, k), some (0, 0), some (0, 0), none, none]) (by simp [zle]) ?_
        refine s_Mo_layRanks_61 m0 out ho hK hB n hn m i1.1 many k (by omega) (rkM m0 out n k) _ ?_ 0 0 0 (by omega) (by rw [Int.zero_add]; rfl) hg
        refine s_Mo_layRanks_195 _ out n many k _ (by omega) _ (ih _ (by omega) (k + 1) _ _ rfl (by omega) (RKp_s i1 (by omega) (by omega)) ?_)
        rw [← i2, zsm_s (n := m0 80 2) (i := k) (by omega)]
        omega
      · refine zV_aload_n d_Mo_layRanks_42 rfl ?_
        refine zV_iload d_Mo_layRanks_43 rfl ?_
        refine zS_invvE (mt' := m_Mo_isFlat) (avs := [(0, k)]) (st := []) d_Mo_layRanks_45 l_Mo_173 k_Mo_isFlat rfl rfl rfl rfl rfl (e_flat (k := k) (rdE_u i1.1) hK (by omega)) ?_
        show zS zT m_Mo_layRanks (0, 0) 48 [some (2, 80), some (0, out), some (0, n), some (0, many), some (0, k), none, none, none, none] [(0, (zb (m0 82 k = 3)))] (zup m 90 ((4 * n) + k) 0) _
        refine zV_ifb_ne d_Mo_layRanks_48 (fun c48 => ?_) (fun c48 => ?_)
        · refine zV_iconst d_Mo_layRanks_55 ?_
          refine zV_istore (L' := [some (2, 80), some (0, out), some (0, n), some (0, many), some (0, k), some (0, 0), none, none, none]) d_Mo_layRanks_56 (by decide) rfl ?_
          refine zV_iconst d_Mo_layRanks_58 ?_
          refine zV_istore (L' := [some (2, 80), some (0, out), some (0, n), some (0, many), some (0, k), some (0, 0), some (0, 0), none, none]) d_Mo_layRanks_59 (by decide) rfl ?_
          have hg : 0 = zb (fsG m0 out n k 0) := by first | rw [zb_t ⟨⟨by omega, by omega⟩, fun j q1 q2 => by omega⟩] | rw [zb_f (fun z => by have := z.1; omega)]
          refine zV_forget (L' := [some (2, 80), some (0, out), some (0, n), some (0, many), some (0, k), some (0, 0), some (0, 0), none, none]) (by simp [zle]) ?_
          refine s_Mo_layRanks_61 m0 out ho hK hB n hn m i1.1 many k (by omega) (rkM m0 out n k) _ ?_ 0 0 0 (by omega) (by rw [Int.zero_add]; rfl) hg
          refine s_Mo_layRanks_195 _ out n many k _ (by omega) _ (ih _ (by omega) (k + 1) _ _ rfl (by omega) (RKp_s i1 (by omega) (by omega)) ?_)
          rw [← i2, zsm_s (n := m0 80 2) (i := k) (by omega)]
          omega
        · refine zV_iconst d_Mo_layRanks_51 ?_
          refine zV_goto d_Mo_layRanks_52 ?_
          refine zV_istore (L' := [some (2, 80), some (0, out), some (0, n), some (0, many), some (0, k), some (0, 1), none, none, none]) d_Mo_layRanks_56 (by decide) rfl ?_
          refine zV_iconst d_Mo_layRanks_58 ?_
          refine zV_istore (L' := [some (2, 80), some (0, out), some (0, n), some (0, many), some (0, k), some (0, 1), some (0, 0), none, none]) d_Mo_layRanks_59 (by decide) rfl ?_
          have hg : 1 = zb (fsG m0 out n k 0) := by first | rw [zb_t ⟨⟨by omega, by omega⟩, fun j q1 q2 => by omega⟩] | rw [zb_f (fun z => by have := z.1; omega)]
          refine zV_forget (L' := [some (2, 80), some (0, out), some (0, n), some (0, many), some (0, k), some (0, 1), some (0, 0), none, none]) (by simp [zle]) ?_
          refine s_Mo_layRanks_61 m0 out ho hK hB n hn m i1.1 many k (by omega) (rkM m0 out n k) _ ?_ 0 0 1 (by omega) (by rw [Int.zero_add]; rfl) hg
          refine s_Mo_layRanks_195 _ out n many k _ (by omega) _ (ih _ (by omega) (k + 1) _ _ rfl (by omega) (RKp_s i1 (by omega) (by omega)) ?_)
          rw [← i2, zsm_s (n := m0 80 2) (i := k) (by omega)]
          omega
theorem s_Mo_layRanks_2 (m0 : zMem) (out : Int) (ho : I32 out) (hK : moK m0) (hB : dBs m0) : ∀ (n : Int) (m : zMem), (0 ≤ n ∧ n ≤ m0 80 15) → (RKp m0 out n 0 m) → zS zT m_Mo_layRanks (0, 0) 2 [some (2, 80), some (0, out), some (0, n), none, none, none, none, none, none] [] m (zQs (fun r m => r = none ∧ RKp m0 out (m0 80 15) 0 m)) := by
  intro n m
  obtain ⟨k9, hk9⟩ : ∃ kq : Nat, (m0 80 15 - n).toNat = kq := ⟨_, rfl⟩
  induction k9 using Nat.strongRecOn generalizing n m with
  | _ k9 ih =>
    intro i0 i1
    have k1 := hK.1
    have b1 := hB.1
    have e80 : m 80 15 = m0 80 15 := by rw [i1.1 80 (by decide) (by decide)]
    refine zV_iload_n d_Mo_layRanks_2 rfl ?_
    refine zV_aload_n d_Mo_layRanks_3 rfl ?_
    refine zS_get d_Mo_layRanks_4 f_Mo_184 rfl rfl ?_
    refine zV_icmp_ge d_Mo_layRanks_7 (by omega) (by omega) (fun c7 => ?_) (fun c7 => ?_)
    · exact zS_vret d_Mo_layRanks_227 rfl ⟨Nat.zero_le _, Nat.zero_le _⟩ ⟨rfl, by rw [show m0 80 15 = n by omega]; exact i1⟩
    · refine zV_iconst d_Mo_layRanks_10 ?_
      refine zV_istore_n (L' := [some (2, 80), some (0, out), some (0, n), some (0, 0), none, none, none, none, none]) d_Mo_layRanks_11 (by decide) rfl ?_
      refine zV_iconst d_Mo_layRanks_12 ?_
      refine zV_istore (L' := [some (2, 80), some (0, out), some (0, n), some (0, 0), some (0, 0), none, none, none, none]) d_Mo_layRanks_13 (by decide) rfl ?_
      refine s_Mo_layRanks_15 m0 out ho hK hB n ⟨i0.1, by omega⟩ _ (fun m5 h5 => ih _ (by omega) (n + 1) m5 rfl (by omega) h5) 0 0 m (by omega) i1 ?_
      rw [Int.zero_add]
      rfl
theorem s_Mo_layRanks (mem : zMem) (out : Int) (ho : I32 out) (hK : moK mem) (hB : dBs mem) : zF m_Mo_layRanks [(2, 80), (0, out)] mem (fun r m => r = none ∧ RKp mem out (mem 80 15) 0 m) := by
  have b1 := hB.1
  refine zF_of (by decide) (Nat.le_of_ble_eq_true rfl) ?_
  show zS zT m_Mo_layRanks (0, 0) 0 [some (2, 80), some (0, out), none, none, none, none, none, none, none] [] mem _
  refine zV_iconst d_Mo_layRanks_0 ?_
  refine zV_istore_n (L' := [some (2, 80), some (0, out), some (0, 0), none, none, none, none, none, none]) d_Mo_layRanks_1 (by decide) rfl ?_
  exact s_Mo_layRanks_2 mem out ho hK hB 0 mem (by omega) ⟨fun _ _ _ => rfl, fun s q1 q2 => by omega, fun s j q1 q2 q3 q4 => by omega⟩
