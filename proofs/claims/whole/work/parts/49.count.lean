/-! what is told of all: counts -/
def cntX (mem : zMem) (w : Int) : Int := if w = 0 then mem 3 1 else if w = 1 then mem 31 1 else if w = 2 then mem 31 2 else if w = 3 then mem 31 2 + 2 * scS mem 31 else if w = 4 then scS mem 31 else if w = 5 then mem 21 4 else if w = 6 then mem 1 1 else if w = 7 then mem 0 13 else if w = 8 then mem 0 14 else if w = 9 then mem 0 15 else if w = 10 then mem 78 2 else -102
theorem s_Cp_count (mem : zMem) (w : Int) (hw : I32 w) (hT : okT mem 31) : zF m_Cp_count [(2, 0), (0, w)] mem (fun r m => r = some (0, cntX mem w) ∧ m = mem) := by
  refine zF_of (by decide) (Nat.le_of_ble_eq_true rfl) ?_
  show zS zT m_Cp_count (0, 0) 0 [some (2, 0), some (0, w)] [] mem _
  refine zV_iload_n d_Cp_count_0 rfl ?_
  by_cases c1_0 : w = 0
  · refine zV_tsIn (off := 59) (tgt := 60) d_Cp_count_1 (by omega) c1_0 (by decide) ?_
    refine zV_aload_n d_Cp_count_60 rfl ?_
    refine zS_getr (r := 3) d_Cp_count_61 f_Cp_19 rfl rfl rfl ?_
    refine zS_get d_Cp_count_64 f_Cp_106 rfl rfl ?_
    exact zS_iret d_Cp_count_67 rfl ⟨Nat.zero_le _, Nat.zero_le _⟩ (by refine ⟨?_, rfl⟩; unfold cntX; rw [if_pos (by omega)])
  by_cases c1_1 : w = 1
  · refine zV_tsIn (off := 67) (tgt := 68) d_Cp_count_1 (by omega) c1_1 (by decide) ?_
    refine zV_aload_n d_Cp_count_68 rfl ?_
    refine zS_getr (r := 31) d_Cp_count_69 f_Cp_42 rfl rfl rfl ?_
    refine zS_get d_Cp_count_72 f_Cp_157 rfl rfl ?_
    exact zS_iret d_Cp_count_75 rfl ⟨Nat.zero_le _, Nat.zero_le _⟩ (by refine ⟨?_, rfl⟩; unfold cntX; rw [if_neg (by omega), if_pos (by omega)])
  by_cases c1_2 : w = 2
  · refine zV_tsIn (off := 75) (tgt := 76) d_Cp_count_1 (by omega) c1_2 (by decide) ?_
    refine zV_aload_n d_Cp_count_76 rfl ?_
    refine zS_getr (r := 31) d_Cp_count_77 f_Cp_42 rfl rfl rfl ?_
    refine zS_get d_Cp_count_80 f_Cp_244 rfl rfl ?_
    exact zS_iret d_Cp_count_83 rfl ⟨Nat.zero_le _, Nat.zero_le _⟩ (by refine ⟨?_, rfl⟩; unfold cntX; rw [if_neg (by omega), if_neg (by omega), if_pos (by omega)])
  by_cases c1_3 : w = 3
  · refine zV_tsIn (off := 83) (tgt := 84) d_Cp_count_1 (by omega) c1_3 (by decide) ?_
    refine zV_aload_n d_Cp_count_84 rfl ?_
    refine zS_getr (r := 31) d_Cp_count_85 f_Cp_42 rfl rfl rfl ?_
    refine zS_invvE (mt' := m_St_cells) (avs := []) (st := []) d_Cp_count_88 l_Cp_203 k_St_cells rfl rfl rfl rfl rfl (s_St_cells mem 31 (Or.inl rfl) hT) ?_
    show zS zT m_Cp_count (0, 0) 91 [some (2, 0), some (0, w)] [(0, (mem 31 2 + 2 * scS mem 31))] mem _
    exact zS_iret d_Cp_count_91 rfl ⟨Nat.zero_le _, Nat.zero_le _⟩ (by refine ⟨?_, rfl⟩; unfold cntX; rw [if_neg (by omega), if_neg (by omega), if_neg (by omega), if_pos (by omega)])
  by_cases c1_4 : w = 4
  · refine zV_tsIn (off := 91) (tgt := 92) d_Cp_count_1 (by omega) c1_4 (by decide) ?_
    refine zV_aload_n d_Cp_count_92 rfl ?_
    refine zS_getr (r := 31) d_Cp_count_93 f_Cp_42 rfl rfl rfl ?_
    refine zS_invvE (mt' := m_St_sections) (avs := []) (st := []) d_Cp_count_96 l_Cp_245 k_St_sections rfl rfl rfl rfl rfl (s_St_sections mem 31 (Or.inl rfl) hT) ?_
    show zS zT m_Cp_count (0, 0) 99 [some (2, 0), some (0, w)] [(0, (scS mem 31))] mem _
    exact zS_iret d_Cp_count_99 rfl ⟨Nat.zero_le _, Nat.zero_le _⟩ (by refine ⟨?_, rfl⟩; unfold cntX; rw [if_neg (by omega), if_neg (by omega), if_neg (by omega), if_neg (by omega), if_pos (by omega)])
  by_cases c1_5 : w = 5
  · refine zV_tsIn (off := 99) (tgt := 100) d_Cp_count_1 (by omega) c1_5 (by decide) ?_
    refine zV_aload_n d_Cp_count_100 rfl ?_
    refine zS_getr (r := 21) d_Cp_count_101 f_Cp_32 rfl rfl rfl ?_
    refine zS_get d_Cp_count_104 f_Cp_118 rfl rfl ?_
    exact zS_iret d_Cp_count_107 rfl ⟨Nat.zero_le _, Nat.zero_le _⟩ (by refine ⟨?_, rfl⟩; unfold cntX; rw [if_neg (by omega), if_neg (by omega), if_neg (by omega), if_neg (by omega), if_neg (by omega), if_pos (by omega)])
  by_cases c1_6 : w = 6
  · refine zV_tsIn (off := 107) (tgt := 108) d_Cp_count_1 (by omega) c1_6 (by decide) ?_
    refine zV_aload_n d_Cp_count_108 rfl ?_
    refine zS_getr (r := 1) d_Cp_count_109 f_Cp_12 rfl rfl rfl ?_
    refine zS_get d_Cp_count_112 f_Cp_95 rfl rfl ?_
    exact zS_iret d_Cp_count_115 rfl ⟨Nat.zero_le _, Nat.zero_le _⟩ (by refine ⟨?_, rfl⟩; unfold cntX; rw [if_neg (by omega), if_neg (by omega), if_neg (by omega), if_neg (by omega), if_neg (by omega), if_neg (by omega), if_pos (by omega)])
  by_cases c1_7 : w = 7
  · refine zV_tsIn (off := 115) (tgt := 116) d_Cp_count_1 (by omega) c1_7 (by decide) ?_
    refine zV_aload_n d_Cp_count_116 rfl ?_
    refine zS_get d_Cp_count_117 f_Cp_81 rfl rfl ?_
    exact zS_iret d_Cp_count_120 rfl ⟨Nat.zero_le _, Nat.zero_le _⟩ (by refine ⟨?_, rfl⟩; unfold cntX; rw [if_neg (by omega), if_neg (by omega), if_neg (by omega), if_neg (by omega), if_neg (by omega), if_neg (by omega), if_neg (by omega), if_pos (by omega)])
  by_cases c1_8 : w = 8
  · refine zV_tsIn (off := 120) (tgt := 121) d_Cp_count_1 (by omega) c1_8 (by decide) ?_
    refine zV_aload_n d_Cp_count_121 rfl ?_
    refine zS_get d_Cp_count_122 f_Cp_85 rfl rfl ?_
    exact zS_iret d_Cp_count_125 rfl ⟨Nat.zero_le _, Nat.zero_le _⟩ (by refine ⟨?_, rfl⟩; unfold cntX; rw [if_neg (by omega), if_neg (by omega), if_neg (by omega), if_neg (by omega), if_neg (by omega), if_neg (by omega), if_neg (by omega), if_neg (by omega), if_pos (by omega)])
  by_cases c1_9 : w = 9
  · refine zV_tsIn (off := 125) (tgt := 126) d_Cp_count_1 (by omega) c1_9 (by decide) ?_
    refine zV_aload_n d_Cp_count_126 rfl ?_
    refine zS_get d_Cp_count_127 f_Cp_88 rfl rfl ?_
    exact zS_iret d_Cp_count_130 rfl ⟨Nat.zero_le _, Nat.zero_le _⟩ (by refine ⟨?_, rfl⟩; unfold cntX; rw [if_neg (by omega), if_neg (by omega), if_neg (by omega), if_neg (by omega), if_neg (by omega), if_neg (by omega), if_neg (by omega), if_neg (by omega), if_neg (by omega), if_pos (by omega)])
  by_cases c1_10 : w = 10
  · refine zV_tsIn (off := 130) (tgt := 131) d_Cp_count_1 (by omega) c1_10 (by decide) ?_
    refine zV_aload_n d_Cp_count_131 rfl ?_
    refine zS_getr (r := 78) d_Cp_count_132 f_Cp_73 rfl rfl rfl ?_
    refine zS_get d_Cp_count_135 f_Cp_237 rfl rfl ?_
    exact zS_iret d_Cp_count_138 rfl ⟨Nat.zero_le _, Nat.zero_le _⟩ (by refine ⟨?_, rfl⟩; unfold cntX; rw [if_neg (by omega), if_neg (by omega), if_neg (by omega), if_neg (by omega), if_neg (by omega), if_neg (by omega), if_neg (by omega), if_neg (by omega), if_neg (by omega), if_neg (by omega), if_pos (by omega)])
  refine zV_tsOut (tgt := 139) d_Cp_count_1 (by omega) (by omega) (by decide) ?_
  refine zV_bipush d_Cp_count_139 ?_
  exact zS_iret d_Cp_count_141 rfl ⟨Nat.zero_le _, Nat.zero_le _⟩ (by refine ⟨?_, rfl⟩; unfold cntX; rw [if_neg (by omega), if_neg (by omega), if_neg (by omega), if_neg (by omega), if_neg (by omega), if_neg (by omega), if_neg (by omega), if_neg (by omega), if_neg (by omega), if_neg (by omega), if_neg (by omega)])
theorem s_Cp_mix (mem : zMem) (h n : Int) (hn : I32 n) : zF m_Cp_mix [(1, h), (0, n)] mem (fun r m => r = some (1, 31 * h + n) ∧ m = mem) := by
  refine zF_of (by decide) (Nat.le_of_ble_eq_true rfl) ?_
  show zS zT m_Cp_mix (0, 0) 0 [some (1, h), none, some (0, n)] [] mem _
  refine zV_ldc2 (a := 31) d_Cp_mix_0 n_Cp_273 rfl ?_
  refine zV_lload_n d_Cp_mix_3 rfl ?_
  refine zV_lmul d_Cp_mix_4 ?_
  refine zV_iload_n d_Cp_mix_5 rfl ?_
  refine zV_i2l d_Cp_mix_6 (by omega) ?_
  refine zV_ladd d_Cp_mix_7 ?_
  exact zS_lret d_Cp_mix_8 rfl ⟨Nat.zero_le _, Nat.zero_le _⟩ ⟨rfl, rfl⟩
