/-! the reference: samples -/
theorem ord_ff {p q p' q' : Int} (hq : 0 < q) (hq' : 0 < q') : ordP (fr p q) (fr p' q') = cmpI (p * q' - p' * q) 0 := by
  refine sSg_uq (ord_ok (pk_fr hq) (pk_fr hq')) (sSg_eq (fun N _ => ?_) (sLin _))
  show (p * q' - p' * q) * N = q' * xq (fr p q) N - q * xq (fr p' q') N
  rw [xq_fr, xq_fr]
  grind
/-- P is a fraction behind the first k points and ahead of the others -/
def SM (s : PtS) (k : Int) (P : Pt) : Prop := (P.2.1 = 0 ∧ P.2.2.1 = 0) ∧ (0 < P.2.2.2 ∧ P.2.2.2 ≤ 4194304) ∧ (-419430401 ≤ P.1 ∧ P.1 ≤ 419430401) ∧ (∀ i, 0 ≤ i → i < k → i < s.1 → ordP (s.2 i) P = -1) ∧ ∀ i, 0 ≤ i → k ≤ i → i < s.1 → ordP P (s.2 i) = -1
theorem nrm_p {p q : Int} (hq : 0 < q) : nrm p 0 0 q = fr p q := by
  rw [nrm_0]
  unfold fr tn
  rw [if_neg (by omega), Int.one_mul, Int.one_mul]
theorem sm_0 {s : PtS} (h : s.1 ≤ 0) (k : Int) : SM s k (fr 0 1) := ⟨⟨rfl, rfl⟩, (by decide : (0 : Int) < 1 ∧ (1 : Int) ≤ 4194304), (by decide : (-419430401 : Int) ≤ 0 ∧ (0 : Int) ≤ 419430401), fun i q1 q2 q3 => by omega, fun i q1 q2 q3 => by omega⟩
theorem sm_a {s : PtS} {v : Int} (hA : okA s) (hS : Srt s) (h : 0 < s.1) (hv : flR (s.2 0) 1 v) : SM s 0 (fr (v - 1) 1) := by
  obtain ⟨v1, v2, v3⟩ := hv
  have k0 := pk_ok (hA.2 0 (by omega) h).1
  rw [cmF_eq k0 (by decide)] at v1
  have e1 : ordP (fr (v - 1) 1) (fr v 1) = -1 := by rw [ord_ff (by decide) (by decide)]; unfold cmpI; rw [if_pos (by omega)]
  have e2 := ord_sy k0 (pk_fr (p := v) (q := 1) (by decide))
  have e3 := ord_3 (s.2 0) (fr v 1)
  have e4 : ordP (fr (v - 1) 1) (s.2 0) = -1 := ord_tr (pk_fr (by decide)) (pk_fr (by decide)) k0 e1 rfl (by omega)
  refine ⟨⟨rfl, rfl⟩, (by decide : (0 : Int) < 1 ∧ (1 : Int) ≤ 4194304), ?_, fun i q1 q2 => by omega, fun i q1 q2 q3 => ?_⟩
  · show -419430401 ≤ v - 1 ∧ v - 1 ≤ 419430401
    omega
  · by_cases e : i = 0
    · rw [e]; exact e4
    · exact ord_tr (pk_fr (by decide)) k0 (pk_ok (hA.2 i q1 q3).1) e4 (hS 0 i (by omega) (by omega) q3) (Or.inr rfl)
theorem sm_z {s : PtS} {v : Int} (hA : okA s) (hS : Srt s) (h : 0 < s.1) (hv : flR (s.2 (s.1 - 1)) 1 v) : SM s s.1 (fr (v + 1) 1) := by
  obtain ⟨v1, v2, v3⟩ := hv
  have k0 := pk_ok (hA.2 (s.1 - 1) (by omega) (by omega)).1
  rw [cmF_eq k0 (by decide)] at v2
  have e3 := ord_3 (s.2 (s.1 - 1)) (fr (v + 1) 1)
  refine ⟨⟨rfl, rfl⟩, (by decide : (0 : Int) < 1 ∧ (1 : Int) ≤ 4194304), ?_, fun i q1 _ q2 => ?_, fun i q1 q2 q3 => by omega⟩
  · show -419430401 ≤ v + 1 ∧ v + 1 ≤ 419430401
    omega
  · by_cases e : i = s.1 - 1
    · rw [e]; omega
    · exact ord_tr (pk_ok (hA.2 i q1 q2).1) k0 (pk_fr (by decide)) (hS i (s.1 - 1) q1 (by omega) (by omega)) (by omega) (Or.inr rfl)
theorem sm_m {s : PtS} {v k q : Int} (hA : okA s) (hS : Srt s) (hk : 0 < k ∧ k < s.1) (hq : 0 < q ∧ q ≤ 4194304) (hv : flR (s.2 (k - 1)) q v) (h2 : 0 < cmF (s.2 k) (v + 1) q) : SM s k (fr (v + 1) q) := by
  obtain ⟨v1, v2, v3⟩ := hv
  have k0 := pk_ok (hA.2 (k - 1) (by omega) (by omega)).1
  have k1 := pk_ok (hA.2 k (by omega) (by omega)).1
  rw [cmF_eq k0 hq.1] at v2
  rw [cmF_eq k1 hq.1] at h2
  have e3 := ord_3 (s.2 (k - 1)) (fr (v + 1) q)
  have e4 := ord_3 (s.2 k) (fr (v + 1) q)
  have e5 := ord_sy k1 (pk_fr (p := v + 1) hq.1)
  have e6 : ordP (fr (v + 1) q) (s.2 k) = -1 := by omega
  refine ⟨⟨rfl, rfl⟩, hq, ?_, fun i q1 q2 q3 => ?_, fun i q1 q2 q3 => ?_⟩
  · show -419430401 ≤ v + 1 ∧ v + 1 ≤ 419430401
    omega
  · by_cases e : i = k - 1
    · rw [e]; omega
    · exact ord_tr (pk_ok (hA.2 i q1 q3).1) k0 (pk_fr hq.1) (hS i (k - 1) q1 (by omega) (by omega)) (by omega) (Or.inr rfl)
  · by_cases e : i = k
    · rw [e]; exact e6
    · exact ord_tr (pk_fr hq.1) k1 (pk_ok (hA.2 i q1 q3).1) e6 (hS k i (by omega) (by omega) q3) (Or.inr rfl)
theorem sm_end {s : PtS} {v k q : Int} (hA : okA s) (hS : Srt s) (hk : 0 < k ∧ k < s.1) (hq : 0 < q ∧ q ≤ 4194304) (hv : flR (s.2 (k - 1)) q v) (h2 : cmF (s.2 k) (v + 1) q ≤ 0) : q < 4194304 := by
  apply Int.not_le.mp
  intro h
  have e : q = 4194304 := by omega
  subst e
  obtain ⟨v1, v2, v3⟩ := hv
  have k0 := hA.2 (k - 1) (by omega) (by omega)
  have k1 := hA.2 k (by omega) (by omega)
  rw [cmF_eq (pk_ok k0.1) (by decide)] at v1
  rw [cmF_eq (pk_ok k1.1) (by decide)] at h2
  have := smp_gap k0 k1 (hS (k - 1) k (by omega) (by omega) hk.2) v1
  omega
theorem s_Mo_laySample_z (mem : zMem) (s : PtS) (at9 k q p : Int) (ha : 0 ≤ at9 ∧ at9 < 64) (hq : 0 < q ∧ q ≤ 4194304) (hP : SM s k (fr p q)) : zS zT m_Mo_laySample (0, 0) 70 [some (2, 80), some (0, at9), some (0, k), some (1, q), none, some (1, p), none, some (0, 0)] [] mem (zQs (fun r m => r = none ∧ ∃ P, SM s k P ∧ m = lyN mem at9 P)) := by
  refine zV_iload d_Mo_laySample_70 rfl ?_
  refine zV_if_eq d_Mo_laySample_72 (by omega) (fun c72 => ?_) (fun c72 => absurd c72 (by omega))
  refine zV_aload_n d_Mo_laySample_112 rfl ?_
  refine zV_iload_n d_Mo_laySample_113 rfl ?_
  refine zV_lload d_Mo_laySample_114 rfl ?_
  refine zV_lconst0 d_Mo_laySample_116 ?_
  refine zV_lconst0 d_Mo_laySample_117 ?_
  refine zV_lload_n d_Mo_laySample_118 rfl ?_
  refine zS_invvE (mt' := m_Mo_layNumber) (avs := [(0, at9), (1, p), (1, 0), (1, 0), (1, q)]) (st := []) d_Mo_laySample_119 l_Mo_159 k_Mo_layNumber rfl rfl rfl rfl rfl (s_Mo_layNumber mem at9 p 0 0 q ha ⟨by decide, by decide⟩ ⟨by omega, by omega⟩) ?_
  show zS zT m_Mo_laySample (0, 0) 122 [some (2, 80), some (0, at9), some (0, k), some (1, q), none, some (1, p), none, some (0, 0)] [] (lyN mem at9 (nrm p 0 0 q)) _
  exact zS_vret d_Mo_laySample_122 rfl ⟨Nat.zero_le _, Nat.zero_le _⟩ ⟨rfl, fr p q, hP, by rw [nrm_p hq.1]⟩
theorem s_Mo_laySample_l (mem : zMem) (s : PtS) (hA : okA s) (hS : Srt s) (hM : MS mem s) (at9 k : Int) (ha : 0 ≤ at9 ∧ at9 < 64) (hk : 0 ≤ k ∧ k ≤ s.1) (hk2 : 0 < k ∧ k < s.1) : ∀ (q : Int) (p : Int), (0 ≤ q ∧ q < 4194304) → zS zT m_Mo_laySample (0, 0) 70 [some (2, 80), some (0, at9), some (0, k), some (1, q), none, some (1, p), none, some (0, 1)] [] mem (zQs (fun r m => r = none ∧ ∃ P, SM s k P ∧ m = lyN mem at9 P)) := by
  intro q p
  obtain ⟨k9, hk9⟩ : ∃ kq : Nat, (4194304 - q).toNat = kq := ⟨_, rfl⟩
  induction k9 using Nat.strongRecOn generalizing q p with
  | _ k9 ih =>
    intro i0
    have e0 := hM.1
    have hm2 := hM.2.2
    have h12 := hM.2.1
    refine zV_iload d_Mo_laySample_70 rfl ?_
    refine zV_if_eq d_Mo_laySample_72 (by omega) (fun c72 => absurd c72 (by omega)) (fun c72 => ?_)
    refine zV_lload_n d_Mo_laySample_75 rfl ?_
    refine zV_lconst1 d_Mo_laySample_76 ?_
    refine zV_ladd d_Mo_laySample_77 ?_
    refine zV_lstore_n (L' := [some (2, 80), some (0, at9), some (0, k), some (1, (q + 1)), none, some (1, p), none, some (0, 1)]) d_Mo_laySample_78 (by decide) rfl ?_
    refine zV_aload_n d_Mo_laySample_79 rfl ?_
    refine zV_iload_n d_Mo_laySample_80 rfl ?_
    refine zV_iconst d_Mo_laySample_81 ?_
    refine zV_isub d_Mo_laySample_82 ?_
    refine zV_lload_n d_Mo_laySample_83 rfl ?_
    refine zS_invv (mt' := m_Mo_floorOf) (avs := [(0, (k - 1)), (1, (q + 1))]) (st := []) d_Mo_laySample_84 l_Mo_180 k_Mo_floorOf rfl rfl rfl rfl rfl (s_Mo_floorOf mem (k - 1) (q + 1) ⟨by omega, by omega⟩ ⟨by omega, by omega⟩ (by rw [hm2 _ (by omega) (by omega)]; exact hA.2 _ (by omega) (by omega))) (fun r9 m9 hq9 => ?_)
    obtain ⟨v9, rfl, hm9, hv9⟩ := hq9
    rw [hm9]
    rw [hm2 (k - 1) (by omega) (by omega)] at hv9
    have hv3 := hv9.2.2
    show zS zT m_Mo_laySample (0, 0) 87 [some (2, 80), some (0, at9), some (0, k), some (1, (q + 1)), none, some (1, p), none, some (0, 1)] [(1, v9)] mem _
    refine zV_lconst1 d_Mo_laySample_87 ?_
    refine zV_ladd d_Mo_laySample_88 ?_
    refine zV_lstore (L' := [some (2, 80), some (0, at9), some (0, k), some (1, (q + 1)), none, some (1, (v9 + 1)), none, some (0, 1)]) d_Mo_laySample_89 (by decide) rfl ?_
    refine zV_aload_n d_Mo_laySample_91 rfl ?_
    refine zV_iload_n d_Mo_laySample_92 rfl ?_
    refine zV_lload d_Mo_laySample_93 rfl ?_
    refine zV_lload_n d_Mo_laySample_95 rfl ?_
    refine zS_invvE (mt' := m_Mo_compareTo) (avs := [(0, k), (1, (v9 + 1)), (1, (q + 1))]) (st := []) d_Mo_laySample_96 l_Mo_152 k_Mo_compareTo rfl rfl rfl rfl rfl (s_Mo_compareTo mem k (v9 + 1) (q + 1) ⟨by omega, by omega⟩ (cB_ok (by rw [hm2 _ (by omega) (by omega)]; exact hA.2 _ (by omega) (by omega)) ⟨by omega, by omega⟩ (by omega))) ?_
    show zS zT m_Mo_laySample (0, 0) 99 [some (2, 80), some (0, at9), some (0, k), some (1, (q + 1)), none, some (1, (v9 + 1)), none, some (0, 1)] [(0, (cmF (mP mem k) (v9 + 1) (q + 1)))] mem _
    refine zV_if_gt d_Mo_laySample_99 (sg3_i _ _ _) (fun c99 => ?_) (fun c99 => ?_)
    · refine zV_iconst d_Mo_laySample_106 ?_
      refine zV_istore (L' := [some (2, 80), some (0, at9), some (0, k), some (1, (q + 1)), none, some (1, (v9 + 1)), none, some (0, 0)]) d_Mo_laySample_107 (by decide) rfl ?_
      refine zV_goto d_Mo_laySample_109 ?_
      rw [hm2 k (by omega) (by omega)] at c99
      exact s_Mo_laySample_z mem s at9 k (q + 1) (v9 + 1) ha ⟨by omega, by omega⟩ (sm_m hA hS hk2 ⟨by omega, by omega⟩ hv9 (by omega))
    · refine zV_iconst d_Mo_laySample_102 ?_
      refine zV_goto d_Mo_laySample_103 ?_
      refine zV_istore (L' := [some (2, 80), some (0, at9), some (0, k), some (1, (q + 1)), none, some (1, (v9 + 1)), none, some (0, 1)]) d_Mo_laySample_107 (by decide) rfl ?_
      refine zV_goto d_Mo_laySample_109 ?_
      rw [hm2 k (by omega) (by omega)] at c99
      exact ih _ (by omega) (q + 1) (v9 + 1) rfl (by have := sm_end hA hS hk2 ⟨by omega, by omega⟩ hv9 c99; omega)
theorem s_Mo_laySample (mem : zMem) (s : PtS) (hA : okA s) (hS : Srt s) (hM : MS mem s) (at9 k : Int) (ha : 0 ≤ at9 ∧ at9 < 64) (hk : 0 ≤ k ∧ k ≤ s.1) : zF m_Mo_laySample [(2, 80), (0, at9), (0, k)] mem (fun r m => r = none ∧ ∃ P, SM s k P ∧ m = lyN mem at9 P) := by
  have e0 := hM.1
  have hm2 := hM.2.2
  have h12 := hM.2.1
  refine zF_of (by decide) (Nat.le_of_ble_eq_true rfl) ?_
  show zS zT m_Mo_laySample (0, 0) 0 [some (2, 80), some (0, at9), some (0, k), none, none, none, none, none] [] mem _
  refine zV_iload_n d_Mo_laySample_0 rfl ?_
  refine zV_if_eq d_Mo_laySample_1 (by omega) (fun c1 => ?_) (fun c1 => ?_)
  · refine zV_aload_n d_Mo_laySample_12 rfl ?_
    refine zS_get d_Mo_laySample_13 f_Mo_156 rfl rfl ?_
    refine zV_if_ne d_Mo_laySample_16 (by omega) (fun c16 => ?_) (fun c16 => ?_)
    · refine zV_iload_n d_Mo_laySample_23 rfl ?_
      refine zV_if_ne d_Mo_laySample_24 (by omega) (fun c24 => ?_) (fun c24 => ?_)
      · refine zV_aload_n d_Mo_laySample_38 rfl ?_
        refine zV_aload_n d_Mo_laySample_39 rfl ?_
        refine zS_get d_Mo_laySample_40 f_Mo_156 rfl rfl ?_
        refine zV_iconst d_Mo_laySample_43 ?_
        refine zV_isub d_Mo_laySample_44 ?_
        refine zV_lconst1 d_Mo_laySample_45 ?_
        refine zS_invv (mt' := m_Mo_floorOf) (avs := [(0, ((mem 80 14) - 1)), (1, 1)]) (st := []) d_Mo_laySample_46 l_Mo_180 k_Mo_floorOf rfl rfl rfl rfl rfl (s_Mo_floorOf mem ((mem 80 14) - 1) 1 ⟨by omega, by omega⟩ ⟨by decide, by decide⟩ (by rw [e0, hm2 _ (by omega) (by omega)]; exact hA.2 _ (by omega) (by omega))) (fun r9 m9 hq9 => ?_)
        obtain ⟨v9, rfl, hm9, hv9⟩ := hq9
        rw [hm9]
        rw [e0, hm2 (s.1 - 1) (by omega) (by omega)] at hv9
        have hv3 := hv9.2.2
        show zS zT m_Mo_laySample (0, 0) 49 [some (2, 80), some (0, at9), some (0, k), none, none, none, none, none] [(1, v9)] mem _
        refine zV_lconst1 d_Mo_laySample_49 ?_
        refine zV_ladd d_Mo_laySample_50 ?_
        refine zV_lstore_n (L' := [some (2, 80), some (0, at9), some (0, k), some (1, (v9 + 1)), none, none, none, none]) d_Mo_laySample_51 (by decide) rfl ?_
        refine zV_aload_n d_Mo_laySample_52 rfl ?_
        refine zV_iload_n d_Mo_laySample_53 rfl ?_
        refine zV_lload_n d_Mo_laySample_54 rfl ?_
        refine zV_lconst0 d_Mo_laySample_55 ?_
        refine zV_lconst0 d_Mo_laySample_56 ?_
        refine zV_lconst1 d_Mo_laySample_57 ?_
        refine zS_invvE (mt' := m_Mo_layNumber) (avs := [(0, at9), (1, (v9 + 1)), (1, 0), (1, 0), (1, 1)]) (st := []) d_Mo_laySample_58 l_Mo_159 k_Mo_layNumber rfl rfl rfl rfl rfl (s_Mo_layNumber mem at9 (v9 + 1) 0 0 1 ha ⟨by decide, by decide⟩ ⟨by decide, by decide⟩) ?_
        show zS zT m_Mo_laySample (0, 0) 61 [some (2, 80), some (0, at9), some (0, k), some (1, (v9 + 1)), none, none, none, none] [] (lyN mem at9 (nrm (v9 + 1) 0 0 1)) _
        exact zS_vret d_Mo_laySample_61 rfl ⟨Nat.zero_le _, Nat.zero_le _⟩ (by first | (exfalso; omega) | exact ⟨rfl, _, sm_0 (by omega) k, by rw [nrm_p (by decide)]⟩ | exact ⟨rfl, _, (by rw [show k = 0 by omega]; exact sm_a hA hS (by omega) hv9), by rw [nrm_p (by decide)]⟩ | exact ⟨rfl, _, (by rw [show k = s.1 by omega]; exact sm_z hA hS (by omega) hv9), by rw [nrm_p (by decide)]⟩)
      · refine zV_aload_n d_Mo_laySample_27 rfl ?_
        refine zV_iconst d_Mo_laySample_28 ?_
        refine zV_lconst1 d_Mo_laySample_29 ?_
        refine zS_invv (mt' := m_Mo_floorOf) (avs := [(0, 0), (1, 1)]) (st := []) d_Mo_laySample_30 l_Mo_180 k_Mo_floorOf rfl rfl rfl rfl rfl (s_Mo_floorOf mem 0 1 ⟨by omega, by omega⟩ ⟨by decide, by decide⟩ (by rw [hm2 _ (by omega) (by omega)]; exact hA.2 _ (by omega) (by omega))) (fun r9 m9 hq9 => ?_)
        obtain ⟨v9, rfl, hm9, hv9⟩ := hq9
        rw [hm9]
        rw [hm2 0 (by omega) (by omega)] at hv9
        have hv3 := hv9.2.2
        show zS zT m_Mo_laySample (0, 0) 33 [some (2, 80), some (0, at9), some (0, k), none, none, none, none, none] [(1, v9)] mem _
        refine zV_lconst1 d_Mo_laySample_33 ?_
        refine zV_lsub d_Mo_laySample_34 ?_
        refine zV_goto d_Mo_laySample_35 ?_
        refine zV_lstore_n (L' := [some (2, 80), some (0, at9), some (0, k), some (1, (v9 - 1)), none, none, none, none]) d_Mo_laySample_51 (by decide) rfl ?_
        refine zV_aload_n d_Mo_laySample_52 rfl ?_
        refine zV_iload_n d_Mo_laySample_53 rfl ?_
        refine zV_lload_n d_Mo_laySample_54 rfl ?_
        refine zV_lconst0 d_Mo_laySample_55 ?_
        refine zV_lconst0 d_Mo_laySample_56 ?_
        refine zV_lconst1 d_Mo_laySample_57 ?_
        refine zS_invvE (mt' := m_Mo_layNumber) (avs := [(0, at9), (1, (v9 - 1)), (1, 0), (1, 0), (1, 1)]) (st := []) d_Mo_laySample_58 l_Mo_159 k_Mo_layNumber rfl rfl rfl rfl rfl (s_Mo_layNumber mem at9 (v9 - 1) 0 0 1 ha ⟨by decide, by decide⟩ ⟨by decide, by decide⟩) ?_
        show zS zT m_Mo_laySample (0, 0) 61 [some (2, 80), some (0, at9), some (0, k), some (1, (v9 - 1)), none, none, none, none] [] (lyN mem at9 (nrm (v9 - 1) 0 0 1)) _
        exact zS_vret d_Mo_laySample_61 rfl ⟨Nat.zero_le _, Nat.zero_le _⟩ (by first | (exfalso; omega) | exact ⟨rfl, _, sm_0 (by omega) k, by rw [nrm_p (by decide)]⟩ | exact ⟨rfl, _, (by rw [show k = 0 by omega]; exact sm_a hA hS (by omega) hv9), by rw [nrm_p (by decide)]⟩ | exact ⟨rfl, _, (by rw [show k = s.1 by omega]; exact sm_z hA hS (by omega) hv9), by rw [nrm_p (by decide)]⟩)
    · refine zV_lconst0 d_Mo_laySample_19 ?_
      refine zV_goto d_Mo_laySample_20 ?_
      refine zV_lstore_n (L' := [some (2, 80), some (0, at9), some (0, k), some (1, 0), none, none, none, none]) d_Mo_laySample_51 (by decide) rfl ?_
      refine zV_aload_n d_Mo_laySample_52 rfl ?_
      refine zV_iload_n d_Mo_laySample_53 rfl ?_
      refine zV_lload_n d_Mo_laySample_54 rfl ?_
      refine zV_lconst0 d_Mo_laySample_55 ?_
      refine zV_lconst0 d_Mo_laySample_56 ?_
      refine zV_lconst1 d_Mo_laySample_57 ?_
      refine zS_invvE (mt' := m_Mo_layNumber) (avs := [(0, at9), (1, 0), (1, 0), (1, 0), (1, 1)]) (st := []) d_Mo_laySample_58 l_Mo_159 k_Mo_layNumber rfl rfl rfl rfl rfl (s_Mo_layNumber mem at9 0 0 0 1 ha ⟨by decide, by decide⟩ ⟨by decide, by decide⟩) ?_
      show zS zT m_Mo_laySample (0, 0) 61 [some (2, 80), some (0, at9), some (0, k), some (1, 0), none, none, none, none] [] (lyN mem at9 (nrm 0 0 0 1)) _
      exact zS_vret d_Mo_laySample_61 rfl ⟨Nat.zero_le _, Nat.zero_le _⟩ (by first | (exfalso; omega) | exact ⟨rfl, _, sm_0 (by omega) k, by rw [nrm_p (by decide)]⟩ | exact ⟨rfl, _, (by rw [show k = 0 by omega]; exact sm_a hA hS (by omega) hv9), by rw [nrm_p (by decide)]⟩ | exact ⟨rfl, _, (by rw [show k = s.1 by omega]; exact sm_z hA hS (by omega) hv9), by rw [nrm_p (by decide)]⟩)
  · refine zV_iload_n d_Mo_laySample_4 rfl ?_
    refine zV_aload_n d_Mo_laySample_5 rfl ?_
    refine zS_get d_Mo_laySample_6 f_Mo_156 rfl rfl ?_
    refine zV_icmp_ne d_Mo_laySample_9 (by omega) (by omega) (fun c9 => ?_) (fun c9 => ?_)
    · refine zV_lconst0 d_Mo_laySample_62 ?_
      refine zV_lstore_n (L' := [some (2, 80), some (0, at9), some (0, k), some (1, 0), none, none, none, none]) d_Mo_laySample_63 (by decide) rfl ?_
      refine zV_lconst0 d_Mo_laySample_64 ?_
      refine zV_lstore (L' := [some (2, 80), some (0, at9), some (0, k), some (1, 0), none, some (1, 0), none, none]) d_Mo_laySample_65 (by decide) rfl ?_
      refine zV_iconst d_Mo_laySample_67 ?_
      refine zV_istore (L' := [some (2, 80), some (0, at9), some (0, k), some (1, 0), none, some (1, 0), none, some (0, 1)]) d_Mo_laySample_68 (by decide) rfl ?_
      exact s_Mo_laySample_l mem s hA hS hM at9 k ha hk (by omega) 0 0 (by omega)
    · refine zV_aload_n d_Mo_laySample_12 rfl ?_
      refine zS_get d_Mo_laySample_13 f_Mo_156 rfl rfl ?_
      refine zV_if_ne d_Mo_laySample_16 (by omega) (fun c16 => ?_) (fun c16 => ?_)
      · refine zV_iload_n d_Mo_laySample_23 rfl ?_
        refine zV_if_ne d_Mo_laySample_24 (by omega) (fun c24 => ?_) (fun c24 => ?_)
        · refine zV_aload_n d_Mo_laySample_38 rfl ?_
          refine zV_aload_n d_Mo_laySample_39 rfl ?_
          refine zS_get d_Mo_laySample_40 f_Mo_156 rfl rfl ?_
          refine zV_iconst d_Mo_laySample_43 ?_
          refine zV_isub d_Mo_laySample_44 ?_
          refine zV_lconst1 d_Mo_laySample_45 ?_
          refine zS_invv (mt' := m_Mo_floorOf) (avs := [(0, ((mem 80 14) - 1)), (1, 1)]) (st := []) d_Mo_laySample_46 l_Mo_180 k_Mo_floorOf rfl rfl rfl rfl rfl (s_Mo_floorOf mem ((mem 80 14) - 1) 1 ⟨by omega, by omega⟩ ⟨by decide, by decide⟩ (by rw [e0, hm2 _ (by omega) (by omega)]; exact hA.2 _ (by omega) (by omega))) (fun r9 m9 hq9 => ?_)
          obtain ⟨v9, rfl, hm9, hv9⟩ := hq9
          rw [hm9]
          rw [e0, hm2 (s.1 - 1) (by omega) (by omega)] at hv9
          have hv3 := hv9.2.2
          show zS zT m_Mo_laySample (0, 0) 49 [some (2, 80), some (0, at9), some (0, k), none, none, none, none, none] [(1, v9)] mem _
          refine zV_lconst1 d_Mo_laySample_49 ?_
          refine zV_ladd d_Mo_laySample_50 ?_
          refine zV_lstore_n (L' := [some (2, 80), some (0, at9), some (0, k), some (1, (v9 + 1)), none, none, none, none]) d_Mo_laySample_51 (by decide) rfl ?_
          refine zV_aload_n d_Mo_laySample_52 rfl ?_
          refine zV_iload_n d_Mo_laySample_53 rfl ?_
          refine zV_lload_n d_Mo_laySample_54 rfl ?_
          refine zV_lconst0 d_Mo_laySample_55 ?_
          refine zV_lconst0 d_Mo_laySample_56 ?_
          refine zV_lconst1 d_Mo_laySample_57 ?_
          refine zS_invvE (mt' := m_Mo_layNumber) (avs := [(0, at9), (1, (v9 + 1)), (1, 0), (1, 0), (1, 1)]) (st := []) d_Mo_laySample_58 l_Mo_159 k_Mo_layNumber rfl rfl rfl rfl rfl (s_Mo_layNumber mem at9 (v9 + 1) 0 0 1 ha ⟨by decide, by decide⟩ ⟨by decide, by decide⟩) ?_
          show zS zT m_Mo_laySample (0, 0) 61 [some (2, 80), some (0, at9), some (0, k), some (1, (v9 + 1)), none, none, none, none] [] (lyN mem at9 (nrm (v9 + 1) 0 0 1)) _
          exact zS_vret d_Mo_laySample_61 rfl ⟨Nat.zero_le _, Nat.zero_le _⟩ (by first | (exfalso; omega) | exact ⟨rfl, _, sm_0 (by omega) k, by rw [nrm_p (by decide)]⟩ | exact ⟨rfl, _, (by rw [show k = 0 by omega]; exact sm_a hA hS (by omega) hv9), by rw [nrm_p (by decide)]⟩ | exact ⟨rfl, _, (by rw [show k = s.1 by omega]; exact sm_z hA hS (by omega) hv9), by rw [nrm_p (by decide)]⟩)
        · refine zV_aload_n d_Mo_laySample_27 rfl ?_
          refine zV_iconst d_Mo_laySample_28 ?_
          refine zV_lconst1 d_Mo_laySample_29 ?_
          refine zS_invv (mt' := m_Mo_floorOf) (avs := [(0, 0), (1, 1)]) (st := []) d_Mo_laySample_30 l_Mo_180 k_Mo_floorOf rfl rfl rfl rfl rfl (s_Mo_floorOf mem 0 1 ⟨by omega, by omega⟩ ⟨by decide, by decide⟩ (by rw [hm2 _ (by omega) (by omega)]; exact hA.2 _ (by omega) (by omega))) (fun r9 m9 hq9 => ?_)
          obtain ⟨v9, rfl, hm9, hv9⟩ := hq9
          rw [hm9]
          rw [hm2 0 (by omega) (by omega)] at hv9
          have hv3 := hv9.2.2
          show zS zT m_Mo_laySample (0, 0) 33 [some (2, 80), some (0, at9), some (0, k), none, none, none, none, none] [(1, v9)] mem _
          refine zV_lconst1 d_Mo_laySample_33 ?_
          refine zV_lsub d_Mo_laySample_34 ?_
          refine zV_goto d_Mo_laySample_35 ?_
          refine zV_lstore_n (L' := [some (2, 80), some (0, at9), some (0, k), some (1, (v9 - 1)), none, none, none, none]) d_Mo_laySample_51 (by decide) rfl ?_
          refine zV_aload_n d_Mo_laySample_52 rfl ?_
          refine zV_iload_n d_Mo_laySample_53 rfl ?_
          refine zV_lload_n d_Mo_laySample_54 rfl ?_
          refine zV_lconst0 d_Mo_laySample_55 ?_
          refine zV_lconst0 d_Mo_laySample_56 ?_
          refine zV_lconst1 d_Mo_laySample_57 ?_
          refine zS_invvE (mt' := m_Mo_layNumber) (avs := [(0, at9), (1, (v9 - 1)), (1, 0), (1, 0), (1, 1)]) (st := []) d_Mo_laySample_58 l_Mo_159 k_Mo_layNumber rfl rfl rfl rfl rfl (s_Mo_layNumber mem at9 (v9 - 1) 0 0 1 ha ⟨by decide, by decide⟩ ⟨by decide, by decide⟩) ?_
          show zS zT m_Mo_laySample (0, 0) 61 [some (2, 80), some (0, at9), some (0, k), some (1, (v9 - 1)), none, none, none, none] [] (lyN mem at9 (nrm (v9 - 1) 0 0 1)) _
          exact zS_vret d_Mo_laySample_61 rfl ⟨Nat.zero_le _, Nat.zero_le _⟩ (by first | (exfalso; omega) | exact ⟨rfl, _, sm_0 (by omega) k, by rw [nrm_p (by decide)]⟩ | exact ⟨rfl, _, (by rw [show k = 0 by omega]; exact sm_a hA hS (by omega) hv9), by rw [nrm_p (by decide)]⟩ | exact ⟨rfl, _, (by rw [show k = s.1 by omega]; exact sm_z hA hS (by omega) hv9), by rw [nrm_p (by decide)]⟩)
      · refine zV_lconst0 d_Mo_laySample_19 ?_
        refine zV_goto d_Mo_laySample_20 ?_
        refine zV_lstore_n (L' := [some (2, 80), some (0, at9), some (0, k), some (1, 0), none, none, none, none]) d_Mo_laySample_51 (by decide) rfl ?_
        refine zV_aload_n d_Mo_laySample_52 rfl ?_
        refine zV_iload_n d_Mo_laySample_53 rfl ?_
        refine zV_lload_n d_Mo_laySample_54 rfl ?_
        refine zV_lconst0 d_Mo_laySample_55 ?_
        refine zV_lconst0 d_Mo_laySample_56 ?_
        refine zV_lconst1 d_Mo_laySample_57 ?_
        refine zS_invvE (mt' := m_Mo_layNumber) (avs := [(0, at9), (1, 0), (1, 0), (1, 0), (1, 1)]) (st := []) d_Mo_laySample_58 l_Mo_159 k_Mo_layNumber rfl rfl rfl rfl rfl (s_Mo_layNumber mem at9 0 0 0 1 ha ⟨by decide, by decide⟩ ⟨by decide, by decide⟩) ?_
        show zS zT m_Mo_laySample (0, 0) 61 [some (2, 80), some (0, at9), some (0, k), some (1, 0), none, none, none, none] [] (lyN mem at9 (nrm 0 0 0 1)) _
        exact zS_vret d_Mo_laySample_61 rfl ⟨Nat.zero_le _, Nat.zero_le _⟩ (by first | (exfalso; omega) | exact ⟨rfl, _, sm_0 (by omega) k, by rw [nrm_p (by decide)]⟩ | exact ⟨rfl, _, (by rw [show k = 0 by omega]; exact sm_a hA hS (by omega) hv9), by rw [nrm_p (by decide)]⟩ | exact ⟨rfl, _, (by rw [show k = s.1 by omega]; exact sm_z hA hS (by omega) hv9), by rw [nrm_p (by decide)]⟩)
def PA (C : Pt → Prop) (s : PtS) : Prop := ∀ k, 0 ≤ k → k < s.1 → C (s.2 k)
theorem ent_C {C : Pt → Prop} {s : PtS} {x : Pt} (h : PA C s) (hx : C x) : PA C (entP s x) := by
  have h1 := zff_r (p := fun p => 0 ≤ ordP (s.2 p) x) (s.1 - 0).toNat 0
  unfold entP
  rcases Classical.em (12 ≤ s.1 ∨ (enQ s x < s.1 ∧ ordP (s.2 (enQ s x)) x = 0)) with c | c
  · rw [cif_t c]; exact h
  · rw [cif_f c]
    unfold enQ at *
    generalize zff (fun p => 0 ≤ ordP (s.2 p) x) (s.1 - 0).toNat 0 = a at *
    intro k q1 q2
    have q3 : k < s.1 + 1 := q2
    show C (if k < a then s.2 k else if k = a then x else s.2 (k - 1))
    by_cases e1 : k < a
    · rw [if_pos e1]; exact h k q1 (by omega)
    · rw [if_neg e1]
      by_cases e2 : k = a
      · rw [if_pos e2]; exact hx
      · rw [if_neg e2]; exact h (k - 1) (by omega) (by omega)
def okN (p : Pt) : Prop := nrm p.1 p.2.1 p.2.2.1 p.2.2.2 = p
theorem nrm_N {p y d q : Int} (hq : q ≠ 0) : okN (nrm p y d q) := by
  have t := (tn_q hq).1
  have t2 : tn (tn q * q) = 1 := by unfold tn at *; rw [if_neg (by omega)]
  unfold okN
  by_cases h : rtD d * rtD d = d
  · have e : nrm p y d q = (tn q * p + tn q * y * rtD d, 0, 0, tn q * q) := by unfold nrm; rw [if_pos h]
    rw [e]
    show nrm (tn q * p + tn q * y * rtD d) 0 0 (tn q * q) = _
    rw [nrm_0, t2, Int.one_mul, Int.one_mul]
  · have e : nrm p y d q = (tn q * p, tn q * y, d, tn q * q) := by unfold nrm; rw [if_neg h]
    rw [e]
    show nrm (tn q * p) (tn q * y) d (tn q * q) = _
    unfold nrm
    rw [if_neg h, t2, Int.one_mul, Int.one_mul, Int.one_mul]
theorem meM_N {s : PtS} {a b c : Int} (h : PA okN s) : PA okN (meM s a b c) := by
  unfold meM
  by_cases h1 : a = 0
  · rw [if_pos h1]
    by_cases h2 : b = 0
    · rw [if_pos h2]; exact h
    · rw [if_neg h2]; exact ent_C h (nrm_N h2)
  · rw [if_neg h1]
    by_cases h2 : b * b - 4 * a * c < 0
    · rw [if_pos h2]; exact h
    · rw [if_neg h2]; exact ent_C (ent_C h (nrm_N (by omega))) (nrm_N (by omega))
theorem lpO_N {mem : zMem} {out k : Int} {s : PtS} (h : PA okN s) : PA okN (lpO mem out k s) := by
  unfold lpO
  refine zfo_inv (f := lpI mem out k) (fun _ s => PA okN s) (k - 0).toNat 0 _ ?_ (fun j s _ _ hs => ?_)
  · rcases Classical.em (k ≠ out ∧ mem 82 k = 3) with c | c
    · rw [cif_t c]; exact ent_C h (nrm_N (by decide))
    · rw [cif_f c]; exact h
  · unfold lpI
    rcases Classical.em (k ≠ out ∧ j ≠ out ∧ mem 82 k ≠ 3 ∧ mem 82 j ≠ 3) with c | c
    · rw [cif_t c]; exact meM_N hs
    · rw [cif_f c]; exact hs
theorem lpA_N (mem : zMem) (out : Int) : PA okN (lpA mem out) := by
  unfold lpA
  refine zfo_inv (f := lpO mem out) (fun _ s => PA okN s) (mem 80 2 - 0).toNat 0 _ ?_ (fun j s _ _ hs => lpO_N hs)
  intro k q1 q2
  have q3 : k < 0 := q2
  omega
def frQ (mem m : zMem) : Prop := (∀ a, a ≠ 80 → (a < 86 ∨ 89 < a) → m a = mem a) ∧ ∀ k, k ≠ 14 → k ≠ 15 → m 80 k = mem 80 k
/-- the first k samples are laid -/
def LSm (m : zMem) (s : PtS) (k : Int) : Prop := MS m s ∧ m 80 15 = 2 * s.1 + 1 ∧ ∀ j, 0 ≤ j → j < k → (j % 2 = 1 → mP m (20 + j) = s.2 (j / 2)) ∧ (j % 2 = 0 → SM s (j / 2) (mP m (20 + j)))
theorem LSm_s {m : zMem} {s : PtS} {k : Int} {P : Pt} (h : LSm m s k) (hk : 0 ≤ k) (h1 : k % 2 = 1 → P = s.2 (k / 2)) (h2 : k % 2 = 0 → SM s (k / 2) P) : LSm (lyN m (20 + k) P) s (k + 1) := by
  obtain ⟨⟨a1, a2, a3⟩, b, c⟩ := h
  refine ⟨⟨by rw [lyN_o (by decide)]; exact a1, a2, fun j q1 q2 => by rw [lyN_n (by omega)]; exact a3 j q1 q2⟩, by rw [lyN_o (by decide)]; exact b, fun j q1 q2 => ?_⟩
  by_cases e : j = k
  · rw [e, lyN_s]
    exact ⟨h1, h2⟩
  · rw [lyN_n (by omega)]
    exact c j q1 (by omega)
theorem frQ_ly {mem m : zMem} {k : Int} {p : Pt} (h : frQ mem m) : frQ mem (lyN m k p) := ⟨fun a q1 q2 => by rw [lyN_o q2]; exact h.1 a q1 q2, fun j q1 q2 => by rw [lyN_o (by decide)]; exact h.2 j q1 q2⟩
theorem s_Mo_laySamples_l (mem : zMem) (s : PtS) (hA : okA s) (hS : Srt s) (hN : PA okN s) (h12 : s.1 ≤ 12) : ∀ (k : Int) (m : zMem), (0 ≤ k ∧ k ≤ 2 * s.1 + 1) → (LSm m s k) → (frQ mem m) → zS zT m_Mo_laySamples (0, 0) 14 [some (2, 80), some (0, k)] [] m (zQs (fun r m => r = none ∧ LSm m s (2 * s.1 + 1) ∧ frQ mem m)) := by
  intro k m
  obtain ⟨k9, hk9⟩ : ∃ kq : Nat, (2 * s.1 + 1 - k).toNat = kq := ⟨_, rfl⟩
  induction k9 using Nat.strongRecOn generalizing k m with
  | _ k9 ih =>
    intro i0 i1 i2
    have e15 := i1.2.1
    have a0 := hA.1
    refine zV_iload_n d_Mo_laySamples_14 rfl ?_
    refine zV_aload_n d_Mo_laySamples_15 rfl ?_
    refine zS_get d_Mo_laySamples_16 f_Mo_184 rfl rfl ?_
    refine zV_icmp_ge d_Mo_laySamples_19 (by omega) (by omega) (fun c19 => ?_) (fun c19 => ?_)
    · exact zS_vret d_Mo_laySamples_89 rfl ⟨Nat.zero_le _, Nat.zero_le _⟩ ⟨rfl, by rw [show 2 * s.1 + 1 = k by omega]; exact i1, i2⟩
    · refine zV_iload_n d_Mo_laySamples_22 rfl ?_
      refine zV_iconst d_Mo_laySamples_23 ?_
      refine zV_irem_p d_Mo_laySamples_24 (by omega) (by omega) ?_
      refine zV_iconst d_Mo_laySamples_25 ?_
      refine zV_icmp_ne d_Mo_laySamples_26 (by omega) (by omega) (fun c26 => ?_) (fun c26 => ?_)
      · refine zV_aload_n d_Mo_laySamples_72 rfl ?_
        refine zV_bipush d_Mo_laySamples_73 ?_
        refine zV_iload_n d_Mo_laySamples_75 rfl ?_
        refine zV_iadd d_Mo_laySamples_76 ?_
        refine zV_iload_n d_Mo_laySamples_77 rfl ?_
        refine zV_iconst d_Mo_laySamples_78 ?_
        refine zV_idiv_p d_Mo_laySamples_79 (by omega) (by omega) ?_
        refine zS_invv (mt' := m_Mo_laySample) (avs := [(0, (20 + k)), (0, (k / 2))]) (st := []) d_Mo_laySamples_80 l_Mo_187 k_Mo_laySample rfl rfl rfl rfl rfl (s_Mo_laySample m s hA hS i1.1 (20 + k) (k / 2) (by omega) (by omega)) (fun r9 m5 hq9 => ?_)
        obtain ⟨rfl, P9, hP9, hm5⟩ := hq9
        show zS zT m_Mo_laySamples (0, 0) 83 [some (2, 80), some (0, k)] [] m5 _
        refine zV_iinc (L' := [some (2, 80), some (0, (k + 1))]) d_Mo_laySamples_83 (by decide) rfl rfl ?_
        refine zV_goto d_Mo_laySamples_86 ?_
        rw [hm5]
        refine ih _ (by omega) (k + 1) _ rfl (by omega) (LSm_s i1 i0.1 (fun q => ?_) (fun q => ?_)) (frQ_ly i2)
        · first | (exfalso; omega) | exact i1.1.2.2 _ (by omega) (by omega)
        · first | (exfalso; omega) | exact hP9
      · refine zV_aload_n d_Mo_laySamples_29 rfl ?_
        refine zV_bipush d_Mo_laySamples_30 ?_
        refine zV_iload_n d_Mo_laySamples_32 rfl ?_
        refine zV_iadd d_Mo_laySamples_33 ?_
        refine zV_aload_n d_Mo_laySamples_34 rfl ?_
        refine zS_getr (r := 86) d_Mo_laySamples_35 f_Mo_25 rfl rfl rfl ?_
        refine zV_iload_n d_Mo_laySamples_38 rfl ?_
        refine zV_iconst d_Mo_laySamples_39 ?_
        refine zV_idiv_p d_Mo_laySamples_40 (by omega) (by omega) ?_
        refine zS_lald d_Mo_laySamples_41 rfl rfl ⟨by omega, by omega⟩ ?_
        refine zV_aload_n d_Mo_laySamples_42 rfl ?_
        refine zS_getr (r := 87) d_Mo_laySamples_43 f_Mo_29 rfl rfl rfl ?_
        refine zV_iload_n d_Mo_laySamples_46 rfl ?_
        refine zV_iconst d_Mo_laySamples_47 ?_
        refine zV_idiv_p d_Mo_laySamples_48 (by omega) (by omega) ?_
        refine zS_lald d_Mo_laySamples_49 rfl rfl ⟨by omega, by omega⟩ ?_
        refine zV_aload_n d_Mo_laySamples_50 rfl ?_
        refine zS_getr (r := 88) d_Mo_laySamples_51 f_Mo_32 rfl rfl rfl ?_
        refine zV_iload_n d_Mo_laySamples_54 rfl ?_
        refine zV_iconst d_Mo_laySamples_55 ?_
        refine zV_idiv_p d_Mo_laySamples_56 (by omega) (by omega) ?_
        refine zS_lald d_Mo_laySamples_57 rfl rfl ⟨by omega, by omega⟩ ?_
        refine zV_aload_n d_Mo_laySamples_58 rfl ?_
        refine zS_getr (r := 89) d_Mo_laySamples_59 f_Mo_35 rfl rfl rfl ?_
        refine zV_iload_n d_Mo_laySamples_62 rfl ?_
        refine zV_iconst d_Mo_laySamples_63 ?_
        refine zV_idiv_p d_Mo_laySamples_64 (by omega) (by omega) ?_
        refine zS_lald d_Mo_laySamples_65 rfl rfl ⟨by omega, by omega⟩ ?_
        have ek : mP m (k / 2) = s.2 (k / 2) := i1.1.2.2 _ (by omega) (by omega)
        have ho : okQ (mP m (k / 2)) := by rw [ek]; exact hA.2 _ (by omega) (by omega)
        have hn9 : nrm (m 86 (k / 2)) (m 87 (k / 2)) (m 88 (k / 2)) (m 89 (k / 2)) = mP m (k / 2) := by have z := hN (k / 2) (by omega) (by omega); rw [← ek] at z; exact z
        refine zS_invv (mt' := m_Mo_layNumber) (avs := [(0, (20 + k)), (1, (m 86 (k / 2))), (1, (m 87 (k / 2))), (1, (m 88 (k / 2))), (1, (m 89 (k / 2)))]) (st := []) d_Mo_laySamples_66 l_Mo_159 k_Mo_layNumber rfl rfl rfl rfl rfl (s_Mo_layNumber m (20 + k) (m 86 (k / 2)) (m 87 (k / 2)) (m 88 (k / 2)) (m 89 (k / 2)) (by omega) (by have z := ho; simp only [mP] at z; exact ⟨z.1.2.2.1.1, z.1.2.2.1.2⟩) (by have z := ho.1.2.2.2; simp only [mP] at z; omega)) (fun r9 m5 hq9 => ?_)
        obtain ⟨rfl, hm5⟩ := hq9
        rw [hn9] at hm5
        show zS zT m_Mo_laySamples (0, 0) 69 [some (2, 80), some (0, k)] [] m5 _
        refine zV_goto d_Mo_laySamples_69 ?_
        refine zV_iinc (L' := [some (2, 80), some (0, (k + 1))]) d_Mo_laySamples_83 (by decide) rfl rfl ?_
        refine zV_goto d_Mo_laySamples_86 ?_
        rw [hm5]
        refine ih _ (by omega) (k + 1) _ rfl (by omega) (LSm_s i1 i0.1 (fun q => ?_) (fun q => ?_)) (frQ_ly i2)
        · first | (exfalso; omega) | exact i1.1.2.2 _ (by omega) (by omega)
        · first | (exfalso; omega) | exact hP9
theorem s_Mo_laySamples (mem : zMem) (s : PtS) (hA : okA s) (hS : Srt s) (hN : PA okN s) (h12 : s.1 ≤ 12) (hM : MS mem s) : zF m_Mo_laySamples [(2, 80)] mem (fun r m => r = none ∧ LSm m s (2 * s.1 + 1) ∧ frQ mem m) := by
  have e0 := hM.1
  have a0 := hA.1
  refine zF_of (by decide) (Nat.le_of_ble_eq_true rfl) ?_
  show zS zT m_Mo_laySamples (0, 0) 0 [some (2, 80), none] [] mem _
  refine zV_aload_n d_Mo_laySamples_0 rfl ?_
  refine zV_iconst d_Mo_laySamples_1 ?_
  refine zV_aload_n d_Mo_laySamples_2 rfl ?_
  refine zS_get d_Mo_laySamples_3 f_Mo_156 rfl rfl ?_
  refine zV_imul d_Mo_laySamples_6 ?_
  refine zV_iconst d_Mo_laySamples_7 ?_
  refine zV_iadd d_Mo_laySamples_8 ?_
  refine zS_puti d_Mo_laySamples_9 f_Mo_184 rfl ⟨rfl, rfl⟩ rfl ?_
  refine zV_iconst d_Mo_laySamples_12 ?_
  refine zV_istore_n (L' := [some (2, 80), some (0, 0)]) d_Mo_laySamples_13 (by decide) rfl ?_
  refine s_Mo_laySamples_l mem s hA hS hN h12 0 _ (by omega) ⟨⟨?_, hM.2.1, fun j q1 q2 => ?_⟩, ?_, fun j q1 q2 => by omega⟩ ⟨fun a q1 _ => zup_a q1, fun j _ q2 => zup_k q2⟩
  · rw [zup_k (by decide)]; exact e0
  · rw [← hM.2.2 j q1 q2]; unfold mP; rw [zup_a (by decide), zup_a (by decide), zup_a (by decide), zup_a (by decide)]
  · rw [zup_s, e0]
