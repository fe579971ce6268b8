/-! curve -/
noncomputable def cuX (mem : zMem) (i w : Int) : Int := if w = 0 then mem (3 + 2 + i) 0 else if w = 1 then mem (3 + 2 + i) 1 + 9 else if w = 2 then mem (3 + 2 + i) 2 + 9 else if w = 3 then mem (3 + 2 + i) 3 else if w = 4 then (srt (fun k => cbX mem 21 i k (mem (3 + 2 + i) 1) (mem (3 + 2 + i) 2))) else if w = 5 then (if (srt (fun k => cbX mem 21 i k (mem (3 + 2 + i) 1) (mem (3 + 2 + i) 2))) = 0 then -1 else asX (srt (fun k => cbX mem 21 i k (mem (3 + 2 + i) 1) (mem (3 + 2 + i) 2))) (mem (3 + 2 + i) 1) (mem (3 + 2 + i) 2)) else -102
theorem s_Cp_curve (mem : zMem) (i w : Int) (hi : I32 i) (hw : I32 w) (hK : rwK mem 3) (hS : okS mem 21) : zF m_Cp_curve [(2, 0), (0, i), (0, w)] mem (fun r m => r = some (0, if 0 ≤ i ∧ i < mem 3 1 then cuX mem i w else -101) ∧ m = mem) := by
  have k1 := hK.1
  refine zF_of (by decide) (Nat.le_of_ble_eq_true rfl) ?_
  show zS zT m_Cp_curve (0, 0) 0 [some (2, 0), some (0, i), some (0, w), none] [] mem _
  refine zV_aload_n d_Cp_curve_0 rfl ?_
  refine zS_getr (r := 3) d_Cp_curve_1 f_Cp_19 rfl rfl rfl ?_
  refine zV_iload_n d_Cp_curve_4 rfl ?_
  refine zS_invvE (mt' := m_Rw_has) (avs := [(0, i)]) (st := []) d_Cp_curve_5 l_Cp_123 k_Rw_has rfl rfl rfl rfl rfl (s_Rw_has mem 3 i (Or.inl rfl) (by omega) (by omega)) ?_
  show zS zT m_Cp_curve (0, 0) 8 [some (2, 0), some (0, i), some (0, w), none] [(0, (zb (0 ≤ i ∧ i < mem 3 1)))] mem _
  refine zV_ifb_ne d_Cp_curve_8 (fun c8 => ?_) (fun c8 => ?_)
  · refine zV_aload_n d_Cp_curve_14 rfl ?_
    refine zS_getr (r := 3) d_Cp_curve_15 f_Cp_19 rfl rfl rfl ?_
    refine zS_getr (r := 4) d_Cp_curve_18 f_Cp_126 rfl rfl rfl ?_
    refine zV_iload_n d_Cp_curve_21 rfl ?_
    refine zS_ald15 (r := (3 + 2 + i)) d_Cp_curve_22 rfl rfl ⟨by omega, by omega⟩ (by omega) ?_
    refine zV_astore_n (L' := [some (2, 0), some (0, i), some (0, w), some (2, (3 + 2 + i))]) d_Cp_curve_23 (by decide) rfl ?_
    refine zV_iload_n d_Cp_curve_24 rfl ?_
    by_cases c25_0 : w = 0
    · refine zV_tsIn (off := 39) (tgt := 64) d_Cp_curve_25 (by omega) c25_0 (by decide) ?_
      refine zV_aload_n d_Cp_curve_64 rfl ?_
      refine zS_get d_Cp_curve_65 f_Cp_130 (kRwc (Or.inl rfl) (by omega) (by omega)) rfl ?_
      exact zS_iret d_Cp_curve_68 rfl ⟨Nat.zero_le _, Nat.zero_le _⟩ (by refine ⟨?_, rfl⟩; rw [if_pos (show 0 ≤ i ∧ i < mem 3 1 by omega)]; unfold cuX; rw [if_pos (show w = 0 by omega)])
    by_cases c25_1 : w = 1
    · refine zV_tsIn (off := 44) (tgt := 69) d_Cp_curve_25 (by omega) c25_1 (by decide) ?_
      refine zV_aload_n d_Cp_curve_69 rfl ?_
      refine zS_get d_Cp_curve_70 f_Cp_135 (kRwc (Or.inl rfl) (by omega) (by omega)) rfl ?_
      refine zV_bipush d_Cp_curve_73 ?_
      refine zV_iadd d_Cp_curve_75 ?_
      exact zS_iret d_Cp_curve_76 rfl ⟨Nat.zero_le _, Nat.zero_le _⟩ (by refine ⟨?_, rfl⟩; rw [if_pos (show 0 ≤ i ∧ i < mem 3 1 by omega)]; unfold cuX; rw [if_neg (show ¬ w = 0 by omega), if_pos (show w = 1 by omega)])
    by_cases c25_2 : w = 2
    · refine zV_tsIn (off := 52) (tgt := 77) d_Cp_curve_25 (by omega) c25_2 (by decide) ?_
      refine zV_aload_n d_Cp_curve_77 rfl ?_
      refine zS_get d_Cp_curve_78 f_Cp_138 (kRwc (Or.inl rfl) (by omega) (by omega)) rfl ?_
      refine zV_bipush d_Cp_curve_81 ?_
      refine zV_iadd d_Cp_curve_83 ?_
      exact zS_iret d_Cp_curve_84 rfl ⟨Nat.zero_le _, Nat.zero_le _⟩ (by refine ⟨?_, rfl⟩; rw [if_pos (show 0 ≤ i ∧ i < mem 3 1 by omega)]; unfold cuX; rw [if_neg (show ¬ w = 0 by omega), if_neg (show ¬ w = 1 by omega), if_pos (show w = 2 by omega)])
    by_cases c25_3 : w = 3
    · refine zV_tsIn (off := 60) (tgt := 85) d_Cp_curve_25 (by omega) c25_3 (by decide) ?_
      refine zV_aload_n d_Cp_curve_85 rfl ?_
      refine zS_get d_Cp_curve_86 f_Cp_141 (kRwc (Or.inl rfl) (by omega) (by omega)) rfl ?_
      exact zS_iret d_Cp_curve_89 rfl ⟨Nat.zero_le _, Nat.zero_le _⟩ (by refine ⟨?_, rfl⟩; rw [if_pos (show 0 ≤ i ∧ i < mem 3 1 by omega)]; unfold cuX; rw [if_neg (show ¬ w = 0 by omega), if_neg (show ¬ w = 1 by omega), if_neg (show ¬ w = 2 by omega), if_pos (show w = 3 by omega)])
    by_cases c25_4 : w = 4
    · refine zV_tsIn (off := 65) (tgt := 90) d_Cp_curve_25 (by omega) c25_4 (by decide) ?_
      refine zV_aload_n d_Cp_curve_90 rfl ?_
      refine zS_getr (r := 21) d_Cp_curve_91 f_Cp_32 rfl rfl rfl ?_
      refine zV_iload_n d_Cp_curve_94 rfl ?_
      refine zV_aload_n d_Cp_curve_95 rfl ?_
      refine zS_invvE (mt' := m_Se_sortsOf) (avs := [(0, i), (2, (3 + 2 + i))]) (st := []) d_Cp_curve_96 l_Cp_144 k_Se_sortsOf rfl rfl rfl rfl rfl (s_Se_sortsOf mem 21 i (3 + 2 + i) (Or.inl rfl) (kRwc (Or.inl rfl) (by omega) (by omega)) hS (by omega) (hK.2 i (by omega) (by omega)).2.1 (hK.2 i (by omega) (by omega)).2.2) ?_
      show zS zT m_Cp_curve (0, 0) 99 [some (2, 0), some (0, i), some (0, w), some (2, (3 + 2 + i))] [(0, (srt (fun k => cbX mem 21 i k (mem (3 + 2 + i) 1) (mem (3 + 2 + i) 2))))] mem _
      exact zS_iret d_Cp_curve_99 rfl ⟨Nat.zero_le _, Nat.zero_le _⟩ (by refine ⟨?_, rfl⟩; rw [if_pos (show 0 ≤ i ∧ i < mem 3 1 by omega)]; unfold cuX; rw [if_neg (show ¬ w = 0 by omega), if_neg (show ¬ w = 1 by omega), if_neg (show ¬ w = 2 by omega), if_neg (show ¬ w = 3 by omega), if_pos (show w = 4 by omega)])
    by_cases c25_5 : w = 5
    · refine zV_tsIn (off := 75) (tgt := 100) d_Cp_curve_25 (by omega) c25_5 (by decide) ?_
      refine zV_aload_n d_Cp_curve_100 rfl ?_
      refine zS_getr (r := 21) d_Cp_curve_101 f_Cp_32 rfl rfl rfl ?_
      refine zV_iload_n d_Cp_curve_104 rfl ?_
      refine zV_aload_n d_Cp_curve_105 rfl ?_
      refine zS_invvE (mt' := m_Se_sortsOf) (avs := [(0, i), (2, (3 + 2 + i))]) (st := []) d_Cp_curve_106 l_Cp_144 k_Se_sortsOf rfl rfl rfl rfl rfl (s_Se_sortsOf mem 21 i (3 + 2 + i) (Or.inl rfl) (kRwc (Or.inl rfl) (by omega) (by omega)) hS (by omega) (hK.2 i (by omega) (by omega)).2.1 (hK.2 i (by omega) (by omega)).2.2) ?_
      show zS zT m_Cp_curve (0, 0) 109 [some (2, 0), some (0, i), some (0, w), some (2, (3 + 2 + i))] [(0, (srt (fun k => cbX mem 21 i k (mem (3 + 2 + i) 1) (mem (3 + 2 + i) 2))))] mem _
      refine zV_aload_n d_Cp_curve_109 rfl ?_
      refine zS_invsE (mt' := m_Se_nextAsk) (avs := [(0, (srt (fun k => cbX mem 21 i k (mem (3 + 2 + i) 1) (mem (3 + 2 + i) 2)))), (2, (3 + 2 + i))]) (st := []) d_Cp_curve_110 l_Cp_148 k_Se_nextAsk rfl rfl rfl rfl (s_Se_nextAsk mem (srt (fun k => cbX mem 21 i k (mem (3 + 2 + i) 1) (mem (3 + 2 + i) 2))) (3 + 2 + i) (kRwc (Or.inl rfl) (by omega) (by omega)) (srt_r _) (hK.2 i (by omega) (by omega)).2.1 (hK.2 i (by omega) (by omega)).2.2) ?_
      show zS zT m_Cp_curve (0, 0) 113 [some (2, 0), some (0, i), some (0, w), some (2, (3 + 2 + i))] [(0, (if (srt (fun k => cbX mem 21 i k (mem (3 + 2 + i) 1) (mem (3 + 2 + i) 2))) = 0 then -1 else asX (srt (fun k => cbX mem 21 i k (mem (3 + 2 + i) 1) (mem (3 + 2 + i) 2))) (mem (3 + 2 + i) 1) (mem (3 + 2 + i) 2)))] mem _
      exact zS_iret d_Cp_curve_113 rfl ⟨Nat.zero_le _, Nat.zero_le _⟩ (by refine ⟨?_, rfl⟩; rw [if_pos (show 0 ≤ i ∧ i < mem 3 1 by omega)]; unfold cuX; rw [if_neg (show ¬ w = 0 by omega), if_neg (show ¬ w = 1 by omega), if_neg (show ¬ w = 2 by omega), if_neg (show ¬ w = 3 by omega), if_neg (show ¬ w = 4 by omega), if_pos (show w = 5 by omega)])
    refine zV_tsOut (tgt := 114) d_Cp_curve_25 (by omega) (by omega) (by decide) ?_
    refine zV_bipush d_Cp_curve_114 ?_
    exact zS_iret d_Cp_curve_116 rfl ⟨Nat.zero_le _, Nat.zero_le _⟩ (by refine ⟨?_, rfl⟩; rw [if_pos (show 0 ≤ i ∧ i < mem 3 1 by omega)]; unfold cuX; rw [if_neg (show ¬ w = 0 by omega), if_neg (show ¬ w = 1 by omega), if_neg (show ¬ w = 2 by omega), if_neg (show ¬ w = 3 by omega), if_neg (show ¬ w = 4 by omega), if_neg (show ¬ w = 5 by omega)])
  · refine zV_bipush d_Cp_curve_11 ?_
    exact zS_iret d_Cp_curve_13 rfl ⟨Nat.zero_le _, Nat.zero_le _⟩ (by refine ⟨?_, rfl⟩; rw [if_neg (by omega)])
