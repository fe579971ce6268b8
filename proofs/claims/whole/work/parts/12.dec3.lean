theorem d_Cp_init_0 : decode m_Cp_init.2.1 0 = .ok (.aload_n 0, 1) ∧ 0 + 1 = 1 := ⟨by decide +kernel, rfl⟩
theorem d_Cp_init_1 : decode m_Cp_init.2.1 1 = .ok (.invokespecial 3, 3) ∧ 1 + 3 = 4 := ⟨by decide +kernel, rfl⟩
theorem d_Cp_init_4 : decode m_Cp_init.2.1 4 = .ok (.aload_n 0, 1) ∧ 4 + 1 = 5 := ⟨by decide +kernel, rfl⟩
theorem d_Cp_init_5 : decode m_Cp_init.2.1 5 = .ok (.new 9, 3) ∧ 5 + 3 = 8 := ⟨by decide +kernel, rfl⟩
theorem d_Cp_init_8 : decode m_Cp_init.2.1 8 = .ok (.dup, 1) ∧ 8 + 1 = 9 := ⟨by decide +kernel, rfl⟩
theorem d_Cp_init_9 : decode m_Cp_init.2.1 9 = .ok (.invokespecial 11, 3) ∧ 9 + 3 = 12 := ⟨by decide +kernel, rfl⟩
theorem d_Cp_init_12 : decode m_Cp_init.2.1 12 = .ok (.putfield 12, 3) ∧ 12 + 3 = 15 := ⟨by decide +kernel, rfl⟩
theorem d_Cp_init_15 : decode m_Cp_init.2.1 15 = .ok (.aload_n 0, 1) ∧ 15 + 1 = 16 := ⟨by decide +kernel, rfl⟩
theorem d_Cp_init_16 : decode m_Cp_init.2.1 16 = .ok (.new 16, 3) ∧ 16 + 3 = 19 := ⟨by decide +kernel, rfl⟩
theorem d_Cp_init_19 : decode m_Cp_init.2.1 19 = .ok (.dup, 1) ∧ 19 + 1 = 20 := ⟨by decide +kernel, rfl⟩
theorem d_Cp_init_20 : decode m_Cp_init.2.1 20 = .ok (.invokespecial 18, 3) ∧ 20 + 3 = 23 := ⟨by decide +kernel, rfl⟩
theorem d_Cp_init_23 : decode m_Cp_init.2.1 23 = .ok (.putfield 19, 3) ∧ 23 + 3 = 26 := ⟨by decide +kernel, rfl⟩
theorem d_Cp_init_26 : decode m_Cp_init.2.1 26 = .ok (.aload_n 0, 1) ∧ 26 + 1 = 27 := ⟨by decide +kernel, rfl⟩
theorem d_Cp_init_27 : decode m_Cp_init.2.1 27 = .ok (.new 16, 3) ∧ 27 + 3 = 30 := ⟨by decide +kernel, rfl⟩
theorem d_Cp_init_30 : decode m_Cp_init.2.1 30 = .ok (.dup, 1) ∧ 30 + 1 = 31 := ⟨by decide +kernel, rfl⟩
theorem d_Cp_init_31 : decode m_Cp_init.2.1 31 = .ok (.invokespecial 18, 3) ∧ 31 + 3 = 34 := ⟨by decide +kernel, rfl⟩
theorem d_Cp_init_34 : decode m_Cp_init.2.1 34 = .ok (.putfield 23, 3) ∧ 34 + 3 = 37 := ⟨by decide +kernel, rfl⟩
theorem d_Cp_init_37 : decode m_Cp_init.2.1 37 = .ok (.aload_n 0, 1) ∧ 37 + 1 = 38 := ⟨by decide +kernel, rfl⟩
theorem d_Cp_init_38 : decode m_Cp_init.2.1 38 = .ok (.new 16, 3) ∧ 38 + 3 = 41 := ⟨by decide +kernel, rfl⟩
theorem d_Cp_init_41 : decode m_Cp_init.2.1 41 = .ok (.dup, 1) ∧ 41 + 1 = 42 := ⟨by decide +kernel, rfl⟩
theorem d_Cp_init_42 : decode m_Cp_init.2.1 42 = .ok (.invokespecial 18, 3) ∧ 42 + 3 = 45 := ⟨by decide +kernel, rfl⟩
theorem d_Cp_init_45 : decode m_Cp_init.2.1 45 = .ok (.putfield 26, 3) ∧ 45 + 3 = 48 := ⟨by decide +kernel, rfl⟩
theorem d_Cp_init_48 : decode m_Cp_init.2.1 48 = .ok (.aload_n 0, 1) ∧ 48 + 1 = 49 := ⟨by decide +kernel, rfl⟩
theorem d_Cp_init_49 : decode m_Cp_init.2.1 49 = .ok (.new 29, 3) ∧ 49 + 3 = 52 := ⟨by decide +kernel, rfl⟩
theorem d_Cp_init_52 : decode m_Cp_init.2.1 52 = .ok (.dup, 1) ∧ 52 + 1 = 53 := ⟨by decide +kernel, rfl⟩
theorem d_Cp_init_53 : decode m_Cp_init.2.1 53 = .ok (.invokespecial 31, 3) ∧ 53 + 3 = 56 := ⟨by decide +kernel, rfl⟩
theorem d_Cp_init_56 : decode m_Cp_init.2.1 56 = .ok (.putfield 32, 3) ∧ 56 + 3 = 59 := ⟨by decide +kernel, rfl⟩
theorem d_Cp_init_59 : decode m_Cp_init.2.1 59 = .ok (.aload_n 0, 1) ∧ 59 + 1 = 60 := ⟨by decide +kernel, rfl⟩
theorem d_Cp_init_60 : decode m_Cp_init.2.1 60 = .ok (.new 29, 3) ∧ 60 + 3 = 63 := ⟨by decide +kernel, rfl⟩
theorem d_Cp_init_63 : decode m_Cp_init.2.1 63 = .ok (.dup, 1) ∧ 63 + 1 = 64 := ⟨by decide +kernel, rfl⟩
theorem d_Cp_init_64 : decode m_Cp_init.2.1 64 = .ok (.invokespecial 31, 3) ∧ 64 + 3 = 67 := ⟨by decide +kernel, rfl⟩
theorem d_Cp_init_67 : decode m_Cp_init.2.1 67 = .ok (.putfield 36, 3) ∧ 67 + 3 = 70 := ⟨by decide +kernel, rfl⟩
theorem d_Cp_init_70 : decode m_Cp_init.2.1 70 = .ok (.aload_n 0, 1) ∧ 70 + 1 = 71 := ⟨by decide +kernel, rfl⟩
theorem d_Cp_init_71 : decode m_Cp_init.2.1 71 = .ok (.new 39, 3) ∧ 71 + 3 = 74 := ⟨by decide +kernel, rfl⟩
theorem d_Cp_init_74 : decode m_Cp_init.2.1 74 = .ok (.dup, 1) ∧ 74 + 1 = 75 := ⟨by decide +kernel, rfl⟩
theorem d_Cp_init_75 : decode m_Cp_init.2.1 75 = .ok (.invokespecial 41, 3) ∧ 75 + 3 = 78 := ⟨by decide +kernel, rfl⟩
theorem d_Cp_init_78 : decode m_Cp_init.2.1 78 = .ok (.putfield 42, 3) ∧ 78 + 3 = 81 := ⟨by decide +kernel, rfl⟩
theorem d_Cp_init_81 : decode m_Cp_init.2.1 81 = .ok (.aload_n 0, 1) ∧ 81 + 1 = 82 := ⟨by decide +kernel, rfl⟩
theorem d_Cp_init_82 : decode m_Cp_init.2.1 82 = .ok (.new 39, 3) ∧ 82 + 3 = 85 := ⟨by decide +kernel, rfl⟩
theorem d_Cp_init_85 : decode m_Cp_init.2.1 85 = .ok (.dup, 1) ∧ 85 + 1 = 86 := ⟨by decide +kernel, rfl⟩
theorem d_Cp_init_86 : decode m_Cp_init.2.1 86 = .ok (.invokespecial 41, 3) ∧ 86 + 3 = 89 := ⟨by decide +kernel, rfl⟩
theorem d_Cp_init_89 : decode m_Cp_init.2.1 89 = .ok (.putfield 46, 3) ∧ 89 + 3 = 92 := ⟨by decide +kernel, rfl⟩
theorem d_Cp_init_92 : decode m_Cp_init.2.1 92 = .ok (.aload_n 0, 1) ∧ 92 + 1 = 93 := ⟨by decide +kernel, rfl⟩
theorem d_Cp_init_93 : decode m_Cp_init.2.1 93 = .ok (.new 49, 3) ∧ 93 + 3 = 96 := ⟨by decide +kernel, rfl⟩
theorem d_Cp_init_96 : decode m_Cp_init.2.1 96 = .ok (.dup, 1) ∧ 96 + 1 = 97 := ⟨by decide +kernel, rfl⟩
theorem d_Cp_init_97 : decode m_Cp_init.2.1 97 = .ok (.invokespecial 51, 3) ∧ 97 + 3 = 100 := ⟨by decide +kernel, rfl⟩
theorem d_Cp_init_100 : decode m_Cp_init.2.1 100 = .ok (.putfield 52, 3) ∧ 100 + 3 = 103 := ⟨by decide +kernel, rfl⟩
theorem d_Cp_init_103 : decode m_Cp_init.2.1 103 = .ok (.aload_n 0, 1) ∧ 103 + 1 = 104 := ⟨by decide +kernel, rfl⟩
theorem d_Cp_init_104 : decode m_Cp_init.2.1 104 = .ok (.new 56, 3) ∧ 104 + 3 = 107 := ⟨by decide +kernel, rfl⟩
theorem d_Cp_init_107 : decode m_Cp_init.2.1 107 = .ok (.dup, 1) ∧ 107 + 1 = 108 := ⟨by decide +kernel, rfl⟩
theorem d_Cp_init_108 : decode m_Cp_init.2.1 108 = .ok (.invokespecial 58, 3) ∧ 108 + 3 = 111 := ⟨by decide +kernel, rfl⟩
theorem d_Cp_init_111 : decode m_Cp_init.2.1 111 = .ok (.putfield 59, 3) ∧ 111 + 3 = 114 := ⟨by decide +kernel, rfl⟩
theorem d_Cp_init_114 : decode m_Cp_init.2.1 114 = .ok (.aload_n 0, 1) ∧ 114 + 1 = 115 := ⟨by decide +kernel, rfl⟩
theorem d_Cp_init_115 : decode m_Cp_init.2.1 115 = .ok (.new 63, 3) ∧ 115 + 3 = 118 := ⟨by decide +kernel, rfl⟩
theorem d_Cp_init_118 : decode m_Cp_init.2.1 118 = .ok (.dup, 1) ∧ 118 + 1 = 119 := ⟨by decide +kernel, rfl⟩
theorem d_Cp_init_119 : decode m_Cp_init.2.1 119 = .ok (.invokespecial 65, 3) ∧ 119 + 3 = 122 := ⟨by decide +kernel, rfl⟩
theorem d_Cp_init_122 : decode m_Cp_init.2.1 122 = .ok (.putfield 66, 3) ∧ 122 + 3 = 125 := ⟨by decide +kernel, rfl⟩
theorem d_Cp_init_125 : decode m_Cp_init.2.1 125 = .ok (.aload_n 0, 1) ∧ 125 + 1 = 126 := ⟨by decide +kernel, rfl⟩
theorem d_Cp_init_126 : decode m_Cp_init.2.1 126 = .ok (.new 70, 3) ∧ 126 + 3 = 129 := ⟨by decide +kernel, rfl⟩
theorem d_Cp_init_129 : decode m_Cp_init.2.1 129 = .ok (.dup, 1) ∧ 129 + 1 = 130 := ⟨by decide +kernel, rfl⟩
theorem d_Cp_init_130 : decode m_Cp_init.2.1 130 = .ok (.invokespecial 72, 3) ∧ 130 + 3 = 133 := ⟨by decide +kernel, rfl⟩
theorem d_Cp_init_133 : decode m_Cp_init.2.1 133 = .ok (.putfield 73, 3) ∧ 133 + 3 = 136 := ⟨by decide +kernel, rfl⟩
theorem d_Cp_init_136 : decode m_Cp_init.2.1 136 = .ok (.aload_n 0, 1) ∧ 136 + 1 = 137 := ⟨by decide +kernel, rfl⟩
theorem d_Cp_init_137 : decode m_Cp_init.2.1 137 = .ok (.iconst 0, 1) ∧ 137 + 1 = 138 := ⟨by decide +kernel, rfl⟩
theorem d_Cp_init_138 : decode m_Cp_init.2.1 138 = .ok (.putfield 77, 3) ∧ 138 + 3 = 141 := ⟨by decide +kernel, rfl⟩
theorem d_Cp_init_141 : decode m_Cp_init.2.1 141 = .ok (.aload_n 0, 1) ∧ 141 + 1 = 142 := ⟨by decide +kernel, rfl⟩
theorem d_Cp_init_142 : decode m_Cp_init.2.1 142 = .ok (.iconst 0, 1) ∧ 142 + 1 = 143 := ⟨by decide +kernel, rfl⟩
theorem d_Cp_init_143 : decode m_Cp_init.2.1 143 = .ok (.putfield 81, 3) ∧ 143 + 3 = 146 := ⟨by decide +kernel, rfl⟩
theorem d_Cp_init_146 : decode m_Cp_init.2.1 146 = .ok (.aload_n 0, 1) ∧ 146 + 1 = 147 := ⟨by decide +kernel, rfl⟩
theorem d_Cp_init_147 : decode m_Cp_init.2.1 147 = .ok (.iconst 0, 1) ∧ 147 + 1 = 148 := ⟨by decide +kernel, rfl⟩
theorem d_Cp_init_148 : decode m_Cp_init.2.1 148 = .ok (.putfield 85, 3) ∧ 148 + 3 = 151 := ⟨by decide +kernel, rfl⟩
theorem d_Cp_init_151 : decode m_Cp_init.2.1 151 = .ok (.aload_n 0, 1) ∧ 151 + 1 = 152 := ⟨by decide +kernel, rfl⟩
theorem d_Cp_init_152 : decode m_Cp_init.2.1 152 = .ok (.iconst 1, 1) ∧ 152 + 1 = 153 := ⟨by decide +kernel, rfl⟩
theorem d_Cp_init_153 : decode m_Cp_init.2.1 153 = .ok (.putfield 88, 3) ∧ 153 + 3 = 156 := ⟨by decide +kernel, rfl⟩
theorem d_Cp_init_156 : decode m_Cp_init.2.1 156 = .ok (.return_, 1) := by decide +kernel
theorem d_Cp_letter_0 : decode m_Cp_letter.2.1 0 = .ok (.iload_n 1, 1) ∧ 0 + 1 = 1 := ⟨by decide +kernel, rfl⟩
theorem d_Cp_letter_1 : decode m_Cp_letter.2.1 1 = .ok (.iconst 1, 1) ∧ 1 + 1 = 2 := ⟨by decide +kernel, rfl⟩
theorem d_Cp_letter_2 : decode m_Cp_letter.2.1 2 = .ok (.if_icmp .lt 9, 3) ∧ 2 + 3 = 5 ∧ (((2 : Nat) : Int) + (9) = ((11 : Nat) : Int)) := ⟨by decide +kernel, rfl, by decide⟩
theorem d_Cp_letter_5 : decode m_Cp_letter.2.1 5 = .ok (.iload_n 1, 1) ∧ 5 + 1 = 6 := ⟨by decide +kernel, rfl⟩
theorem d_Cp_letter_6 : decode m_Cp_letter.2.1 6 = .ok (.bipush 126, 2) ∧ 6 + 2 = 8 ∧ (Int8.ofInt 126).toInt32 = Int32.ofInt 126 := ⟨by decide +kernel, rfl, by decide +kernel⟩
theorem d_Cp_letter_8 : decode m_Cp_letter.2.1 8 = .ok (.if_icmp .le 6, 3) ∧ 8 + 3 = 11 ∧ (((8 : Nat) : Int) + (6) = ((14 : Nat) : Int)) := ⟨by decide +kernel, rfl, by decide⟩
theorem d_Cp_letter_11 : decode m_Cp_letter.2.1 11 = .ok (.bipush (-102), 2) ∧ 11 + 2 = 13 ∧ (Int8.ofInt (-102)).toInt32 = Int32.ofInt (-102) := ⟨by decide +kernel, rfl, by decide +kernel⟩
theorem d_Cp_letter_13 : decode m_Cp_letter.2.1 13 = .ok (.ireturn, 1) := by decide +kernel
theorem d_Cp_letter_14 : decode m_Cp_letter.2.1 14 = .ok (.aload_n 0, 1) ∧ 14 + 1 = 15 := ⟨by decide +kernel, rfl⟩
theorem d_Cp_letter_15 : decode m_Cp_letter.2.1 15 = .ok (.getfield 12, 3) ∧ 15 + 3 = 18 := ⟨by decide +kernel, rfl⟩
theorem d_Cp_letter_18 : decode m_Cp_letter.2.1 18 = .ok (.iload_n 1, 1) ∧ 18 + 1 = 19 := ⟨by decide +kernel, rfl⟩
theorem d_Cp_letter_19 : decode m_Cp_letter.2.1 19 = .ok (.invokevirtual 91, 3) ∧ 19 + 3 = 22 := ⟨by decide +kernel, rfl⟩
theorem d_Cp_letter_22 : decode m_Cp_letter.2.1 22 = .ok (.ifCond .eq 13, 3) ∧ 22 + 3 = 25 ∧ (((22 : Nat) : Int) + (13) = ((35 : Nat) : Int)) := ⟨by decide +kernel, rfl, by decide⟩
theorem d_Cp_letter_25 : decode m_Cp_letter.2.1 25 = .ok (.aload_n 0, 1) ∧ 25 + 1 = 26 := ⟨by decide +kernel, rfl⟩
theorem d_Cp_letter_26 : decode m_Cp_letter.2.1 26 = .ok (.getfield 12, 3) ∧ 26 + 3 = 29 := ⟨by decide +kernel, rfl⟩
theorem d_Cp_letter_29 : decode m_Cp_letter.2.1 29 = .ok (.getfield 95, 3) ∧ 29 + 3 = 32 := ⟨by decide +kernel, rfl⟩
theorem d_Cp_letter_32 : decode m_Cp_letter.2.1 32 = .ok (.goto 5, 3) ∧ (((32 : Nat) : Int) + (5) = ((37 : Nat) : Int)) := ⟨by decide +kernel, by decide⟩
theorem d_Cp_letter_35 : decode m_Cp_letter.2.1 35 = .ok (.bipush (-104), 2) ∧ 35 + 2 = 37 ∧ (Int8.ofInt (-104)).toInt32 = Int32.ofInt (-104) := ⟨by decide +kernel, rfl, by decide +kernel⟩
theorem d_Cp_letter_37 : decode m_Cp_letter.2.1 37 = .ok (.ireturn, 1) := by decide +kernel
theorem d_Cp_blank_0 : decode m_Cp_blank.2.1 0 = .ok (.aload_n 0, 1) ∧ 0 + 1 = 1 := ⟨by decide +kernel, rfl⟩
theorem d_Cp_blank_1 : decode m_Cp_blank.2.1 1 = .ok (.getfield 12, 3) ∧ 1 + 3 = 4 := ⟨by decide +kernel, rfl⟩
theorem d_Cp_blank_4 : decode m_Cp_blank.2.1 4 = .ok (.getfield 95, 3) ∧ 4 + 3 = 7 := ⟨by decide +kernel, rfl⟩
theorem d_Cp_blank_7 : decode m_Cp_blank.2.1 7 = .ok (.istore_n 1, 1) ∧ 7 + 1 = 8 := ⟨by decide +kernel, rfl⟩
theorem d_Cp_blank_8 : decode m_Cp_blank.2.1 8 = .ok (.aload_n 0, 1) ∧ 8 + 1 = 9 := ⟨by decide +kernel, rfl⟩
theorem d_Cp_blank_9 : decode m_Cp_blank.2.1 9 = .ok (.getfield 12, 3) ∧ 9 + 3 = 12 := ⟨by decide +kernel, rfl⟩
theorem d_Cp_blank_12 : decode m_Cp_blank.2.1 12 = .ok (.iconst 0, 1) ∧ 12 + 1 = 13 := ⟨by decide +kernel, rfl⟩
theorem d_Cp_blank_13 : decode m_Cp_blank.2.1 13 = .ok (.putfield 95, 3) ∧ 13 + 3 = 16 := ⟨by decide +kernel, rfl⟩
theorem d_Cp_blank_16 : decode m_Cp_blank.2.1 16 = .ok (.iload_n 1, 1) ∧ 16 + 1 = 17 := ⟨by decide +kernel, rfl⟩
theorem d_Cp_blank_17 : decode m_Cp_blank.2.1 17 = .ok (.ireturn, 1) := by decide +kernel
theorem d_Cp_fault_0 : decode m_Cp_fault.2.1 0 = .ok (.aload_n 0, 1) ∧ 0 + 1 = 1 := ⟨by decide +kernel, rfl⟩
theorem d_Cp_fault_1 : decode m_Cp_fault.2.1 1 = .ok (.getfield 12, 3) ∧ 1 + 3 = 4 := ⟨by decide +kernel, rfl⟩
theorem d_Cp_fault_4 : decode m_Cp_fault.2.1 4 = .ok (.invokevirtual 98, 3) ∧ 4 + 3 = 7 := ⟨by decide +kernel, rfl⟩
theorem d_Cp_fault_7 : decode m_Cp_fault.2.1 7 = .ok (.ireturn, 1) := by decide +kernel
theorem d_Cp_plane_0 : decode m_Cp_plane.2.1 0 = .ok (.aload_n 0, 1) ∧ 0 + 1 = 1 := ⟨by decide +kernel, rfl⟩
theorem d_Cp_plane_1 : decode m_Cp_plane.2.1 1 = .ok (.getfield 12, 3) ∧ 1 + 3 = 4 := ⟨by decide +kernel, rfl⟩
theorem d_Cp_plane_4 : decode m_Cp_plane.2.1 4 = .ok (.invokevirtual 102, 3) ∧ 4 + 3 = 7 := ⟨by decide +kernel, rfl⟩
theorem d_Cp_plane_7 : decode m_Cp_plane.2.1 7 = .ok (.ifCond .ne 6, 3) ∧ 7 + 3 = 10 ∧ (((7 : Nat) : Int) + (6) = ((13 : Nat) : Int)) := ⟨by decide +kernel, rfl, by decide⟩
theorem d_Cp_plane_10 : decode m_Cp_plane.2.1 10 = .ok (.bipush (-103), 2) ∧ 10 + 2 = 12 ∧ (Int8.ofInt (-103)).toInt32 = Int32.ofInt (-103) := ⟨by decide +kernel, rfl, by decide +kernel⟩
theorem d_Cp_plane_12 : decode m_Cp_plane.2.1 12 = .ok (.ireturn, 1) := by decide +kernel
theorem d_Cp_plane_13 : decode m_Cp_plane.2.1 13 = .ok (.aload_n 0, 1) ∧ 13 + 1 = 14 := ⟨by decide +kernel, rfl⟩
theorem d_Cp_plane_14 : decode m_Cp_plane.2.1 14 = .ok (.getfield 19, 3) ∧ 14 + 3 = 17 := ⟨by decide +kernel, rfl⟩
theorem d_Cp_plane_17 : decode m_Cp_plane.2.1 17 = .ok (.iconst 0, 1) ∧ 17 + 1 = 18 := ⟨by decide +kernel, rfl⟩
theorem d_Cp_plane_18 : decode m_Cp_plane.2.1 18 = .ok (.putfield 106, 3) ∧ 18 + 3 = 21 := ⟨by decide +kernel, rfl⟩
theorem d_Cp_plane_21 : decode m_Cp_plane.2.1 21 = .ok (.iconst 0, 1) ∧ 21 + 1 = 22 := ⟨by decide +kernel, rfl⟩
theorem d_Cp_plane_22 : decode m_Cp_plane.2.1 22 = .ok (.istore_n 1, 1) ∧ 22 + 1 = 23 := ⟨by decide +kernel, rfl⟩
theorem d_Cp_plane_23 : decode m_Cp_plane.2.1 23 = .ok (.iload_n 1, 1) ∧ 23 + 1 = 24 := ⟨by decide +kernel, rfl⟩
theorem d_Cp_plane_24 : decode m_Cp_plane.2.1 24 = .ok (.aload_n 0, 1) ∧ 24 + 1 = 25 := ⟨by decide +kernel, rfl⟩
theorem d_Cp_plane_25 : decode m_Cp_plane.2.1 25 = .ok (.getfield 12, 3) ∧ 25 + 3 = 28 := ⟨by decide +kernel, rfl⟩
theorem d_Cp_plane_28 : decode m_Cp_plane.2.1 28 = .ok (.getfield 95, 3) ∧ 28 + 3 = 31 := ⟨by decide +kernel, rfl⟩
theorem d_Cp_plane_31 : decode m_Cp_plane.2.1 31 = .ok (.if_icmp .ge 45, 3) ∧ 31 + 3 = 34 ∧ (((31 : Nat) : Int) + (45) = ((76 : Nat) : Int)) := ⟨by decide +kernel, rfl, by decide⟩
theorem d_Cp_plane_34 : decode m_Cp_plane.2.1 34 = .ok (.aload_n 0, 1) ∧ 34 + 1 = 35 := ⟨by decide +kernel, rfl⟩
theorem d_Cp_plane_35 : decode m_Cp_plane.2.1 35 = .ok (.getfield 12, 3) ∧ 35 + 3 = 38 := ⟨by decide +kernel, rfl⟩
theorem d_Cp_plane_38 : decode m_Cp_plane.2.1 38 = .ok (.iload_n 1, 1) ∧ 38 + 1 = 39 := ⟨by decide +kernel, rfl⟩
theorem d_Cp_plane_39 : decode m_Cp_plane.2.1 39 = .ok (.iconst 1, 1) ∧ 39 + 1 = 40 := ⟨by decide +kernel, rfl⟩
theorem d_Cp_plane_40 : decode m_Cp_plane.2.1 40 = .ok (.iadd, 1) ∧ 40 + 1 = 41 := ⟨by decide +kernel, rfl⟩
theorem d_Cp_plane_41 : decode m_Cp_plane.2.1 41 = .ok (.invokevirtual 107, 3) ∧ 41 + 3 = 44 := ⟨by decide +kernel, rfl⟩
theorem d_Cp_plane_44 : decode m_Cp_plane.2.1 44 = .ok (.istore_n 2, 1) ∧ 44 + 1 = 45 := ⟨by decide +kernel, rfl⟩
theorem d_Cp_plane_45 : decode m_Cp_plane.2.1 45 = .ok (.aload_n 0, 1) ∧ 45 + 1 = 46 := ⟨by decide +kernel, rfl⟩
theorem d_Cp_plane_46 : decode m_Cp_plane.2.1 46 = .ok (.getfield 12, 3) ∧ 46 + 3 = 49 := ⟨by decide +kernel, rfl⟩
theorem d_Cp_plane_49 : decode m_Cp_plane.2.1 49 = .ok (.iload_n 1, 1) ∧ 49 + 1 = 50 := ⟨by decide +kernel, rfl⟩
theorem d_Cp_plane_50 : decode m_Cp_plane.2.1 50 = .ok (.iconst 3, 1) ∧ 50 + 1 = 51 := ⟨by decide +kernel, rfl⟩
theorem d_Cp_plane_51 : decode m_Cp_plane.2.1 51 = .ok (.iadd, 1) ∧ 51 + 1 = 52 := ⟨by decide +kernel, rfl⟩
theorem d_Cp_plane_52 : decode m_Cp_plane.2.1 52 = .ok (.invokevirtual 107, 3) ∧ 52 + 3 = 55 := ⟨by decide +kernel, rfl⟩
theorem d_Cp_plane_55 : decode m_Cp_plane.2.1 55 = .ok (.istore_n 3, 1) ∧ 55 + 1 = 56 := ⟨by decide +kernel, rfl⟩
theorem d_Cp_plane_56 : decode m_Cp_plane.2.1 56 = .ok (.aload_n 0, 1) ∧ 56 + 1 = 57 := ⟨by decide +kernel, rfl⟩
theorem d_Cp_plane_57 : decode m_Cp_plane.2.1 57 = .ok (.aload_n 0, 1) ∧ 57 + 1 = 58 := ⟨by decide +kernel, rfl⟩
theorem d_Cp_plane_58 : decode m_Cp_plane.2.1 58 = .ok (.getfield 12, 3) ∧ 58 + 3 = 61 := ⟨by decide +kernel, rfl⟩
theorem d_Cp_plane_61 : decode m_Cp_plane.2.1 61 = .ok (.iload_n 1, 1) ∧ 61 + 1 = 62 := ⟨by decide +kernel, rfl⟩
theorem d_Cp_plane_62 : decode m_Cp_plane.2.1 62 = .ok (.invokevirtual 111, 3) ∧ 62 + 3 = 65 := ⟨by decide +kernel, rfl⟩
theorem d_Cp_plane_65 : decode m_Cp_plane.2.1 65 = .ok (.iload_n 2, 1) ∧ 65 + 1 = 66 := ⟨by decide +kernel, rfl⟩
theorem d_Cp_plane_66 : decode m_Cp_plane.2.1 66 = .ok (.iload_n 3, 1) ∧ 66 + 1 = 67 := ⟨by decide +kernel, rfl⟩
theorem d_Cp_plane_67 : decode m_Cp_plane.2.1 67 = .ok (.invokevirtual 114, 3) ∧ 67 + 3 = 70 := ⟨by decide +kernel, rfl⟩
theorem d_Cp_plane_70 : decode m_Cp_plane.2.1 70 = .ok (.iinc 1 6, 3) ∧ 70 + 3 = 73 := ⟨by decide +kernel, rfl⟩
theorem d_Cp_plane_73 : decode m_Cp_plane.2.1 73 = .ok (.goto (-50), 3) ∧ (((73 : Nat) : Int) + (-50) = ((23 : Nat) : Int)) := ⟨by decide +kernel, by decide⟩
theorem d_Cp_plane_76 : decode m_Cp_plane.2.1 76 = .ok (.aload_n 0, 1) ∧ 76 + 1 = 77 := ⟨by decide +kernel, rfl⟩
theorem d_Cp_plane_77 : decode m_Cp_plane.2.1 77 = .ok (.getfield 12, 3) ∧ 77 + 3 = 80 := ⟨by decide +kernel, rfl⟩
theorem d_Cp_plane_80 : decode m_Cp_plane.2.1 80 = .ok (.iconst 0, 1) ∧ 80 + 1 = 81 := ⟨by decide +kernel, rfl⟩
theorem d_Cp_plane_81 : decode m_Cp_plane.2.1 81 = .ok (.putfield 95, 3) ∧ 81 + 3 = 84 := ⟨by decide +kernel, rfl⟩
theorem d_Cp_plane_84 : decode m_Cp_plane.2.1 84 = .ok (.aload_n 0, 1) ∧ 84 + 1 = 85 := ⟨by decide +kernel, rfl⟩
theorem d_Cp_plane_85 : decode m_Cp_plane.2.1 85 = .ok (.getfield 32, 3) ∧ 85 + 3 = 88 := ⟨by decide +kernel, rfl⟩
theorem d_Cp_plane_88 : decode m_Cp_plane.2.1 88 = .ok (.iconst 0, 1) ∧ 88 + 1 = 89 := ⟨by decide +kernel, rfl⟩
theorem d_Cp_plane_89 : decode m_Cp_plane.2.1 89 = .ok (.putfield 118, 3) ∧ 89 + 3 = 92 := ⟨by decide +kernel, rfl⟩
theorem d_Cp_plane_92 : decode m_Cp_plane.2.1 92 = .ok (.aload_n 0, 1) ∧ 92 + 1 = 93 := ⟨by decide +kernel, rfl⟩
theorem d_Cp_plane_93 : decode m_Cp_plane.2.1 93 = .ok (.iconst 0, 1) ∧ 93 + 1 = 94 := ⟨by decide +kernel, rfl⟩
theorem d_Cp_plane_94 : decode m_Cp_plane.2.1 94 = .ok (.putfield 77, 3) ∧ 94 + 3 = 97 := ⟨by decide +kernel, rfl⟩
theorem d_Cp_plane_97 : decode m_Cp_plane.2.1 97 = .ok (.aload_n 0, 1) ∧ 97 + 1 = 98 := ⟨by decide +kernel, rfl⟩
theorem d_Cp_plane_98 : decode m_Cp_plane.2.1 98 = .ok (.dup, 1) ∧ 98 + 1 = 99 := ⟨by decide +kernel, rfl⟩
theorem d_Cp_plane_99 : decode m_Cp_plane.2.1 99 = .ok (.getfield 81, 3) ∧ 99 + 3 = 102 := ⟨by decide +kernel, rfl⟩
theorem d_Cp_plane_102 : decode m_Cp_plane.2.1 102 = .ok (.iconst 1, 1) ∧ 102 + 1 = 103 := ⟨by decide +kernel, rfl⟩
theorem d_Cp_plane_103 : decode m_Cp_plane.2.1 103 = .ok (.iadd, 1) ∧ 103 + 1 = 104 := ⟨by decide +kernel, rfl⟩
theorem d_Cp_plane_104 : decode m_Cp_plane.2.1 104 = .ok (.putfield 81, 3) ∧ 104 + 3 = 107 := ⟨by decide +kernel, rfl⟩
theorem d_Cp_plane_107 : decode m_Cp_plane.2.1 107 = .ok (.aload_n 0, 1) ∧ 107 + 1 = 108 := ⟨by decide +kernel, rfl⟩
theorem d_Cp_plane_108 : decode m_Cp_plane.2.1 108 = .ok (.getfield 42, 3) ∧ 108 + 3 = 111 := ⟨by decide +kernel, rfl⟩
theorem d_Cp_plane_111 : decode m_Cp_plane.2.1 111 = .ok (.aload_n 0, 1) ∧ 111 + 1 = 112 := ⟨by decide +kernel, rfl⟩
theorem d_Cp_plane_112 : decode m_Cp_plane.2.1 112 = .ok (.getfield 19, 3) ∧ 112 + 3 = 115 := ⟨by decide +kernel, rfl⟩
theorem d_Cp_plane_115 : decode m_Cp_plane.2.1 115 = .ok (.invokevirtual 119, 3) ∧ 115 + 3 = 118 := ⟨by decide +kernel, rfl⟩
theorem d_Cp_plane_118 : decode m_Cp_plane.2.1 118 = .ok (.aload_n 0, 1) ∧ 118 + 1 = 119 := ⟨by decide +kernel, rfl⟩
theorem d_Cp_plane_119 : decode m_Cp_plane.2.1 119 = .ok (.getfield 19, 3) ∧ 119 + 3 = 122 := ⟨by decide +kernel, rfl⟩
theorem d_Cp_plane_122 : decode m_Cp_plane.2.1 122 = .ok (.getfield 106, 3) ∧ 122 + 3 = 125 := ⟨by decide +kernel, rfl⟩
theorem d_Cp_plane_125 : decode m_Cp_plane.2.1 125 = .ok (.ireturn, 1) := by decide +kernel
theorem d_Cp_curve_0 : decode m_Cp_curve.2.1 0 = .ok (.aload_n 0, 1) ∧ 0 + 1 = 1 := ⟨by decide +kernel, rfl⟩
theorem d_Cp_curve_1 : decode m_Cp_curve.2.1 1 = .ok (.getfield 19, 3) ∧ 1 + 3 = 4 := ⟨by decide +kernel, rfl⟩
theorem d_Cp_curve_4 : decode m_Cp_curve.2.1 4 = .ok (.iload_n 1, 1) ∧ 4 + 1 = 5 := ⟨by decide +kernel, rfl⟩
theorem d_Cp_curve_5 : decode m_Cp_curve.2.1 5 = .ok (.invokevirtual 123, 3) ∧ 5 + 3 = 8 := ⟨by decide +kernel, rfl⟩
theorem d_Cp_curve_8 : decode m_Cp_curve.2.1 8 = .ok (.ifCond .ne 6, 3) ∧ 8 + 3 = 11 ∧ (((8 : Nat) : Int) + (6) = ((14 : Nat) : Int)) := ⟨by decide +kernel, rfl, by decide⟩
theorem d_Cp_curve_11 : decode m_Cp_curve.2.1 11 = .ok (.bipush (-101), 2) ∧ 11 + 2 = 13 ∧ (Int8.ofInt (-101)).toInt32 = Int32.ofInt (-101) := ⟨by decide +kernel, rfl, by decide +kernel⟩
theorem d_Cp_curve_13 : decode m_Cp_curve.2.1 13 = .ok (.ireturn, 1) := by decide +kernel
theorem d_Cp_curve_14 : decode m_Cp_curve.2.1 14 = .ok (.aload_n 0, 1) ∧ 14 + 1 = 15 := ⟨by decide +kernel, rfl⟩
theorem d_Cp_curve_15 : decode m_Cp_curve.2.1 15 = .ok (.getfield 19, 3) ∧ 15 + 3 = 18 := ⟨by decide +kernel, rfl⟩
theorem d_Cp_curve_18 : decode m_Cp_curve.2.1 18 = .ok (.getfield 126, 3) ∧ 18 + 3 = 21 := ⟨by decide +kernel, rfl⟩
theorem d_Cp_curve_21 : decode m_Cp_curve.2.1 21 = .ok (.iload_n 1, 1) ∧ 21 + 1 = 22 := ⟨by decide +kernel, rfl⟩
theorem d_Cp_curve_22 : decode m_Cp_curve.2.1 22 = .ok (.aaload, 1) ∧ 22 + 1 = 23 := ⟨by decide +kernel, rfl⟩
theorem d_Cp_curve_23 : decode m_Cp_curve.2.1 23 = .ok (.astore_n 3, 1) ∧ 23 + 1 = 24 := ⟨by decide +kernel, rfl⟩
theorem d_Cp_curve_24 : decode m_Cp_curve.2.1 24 = .ok (.iload_n 2, 1) ∧ 24 + 1 = 25 := ⟨by decide +kernel, rfl⟩
theorem d_Cp_curve_25 : decode m_Cp_curve.2.1 25 = .ok (.tableswitch 89 0 5 #[39, 44, 52, 60, 65, 75], 39) := by decide +kernel
theorem d_Cp_curve_64 : decode m_Cp_curve.2.1 64 = .ok (.aload_n 3, 1) ∧ 64 + 1 = 65 := ⟨by decide +kernel, rfl⟩
theorem d_Cp_curve_65 : decode m_Cp_curve.2.1 65 = .ok (.getfield 130, 3) ∧ 65 + 3 = 68 := ⟨by decide +kernel, rfl⟩
theorem d_Cp_curve_68 : decode m_Cp_curve.2.1 68 = .ok (.ireturn, 1) := by decide +kernel
theorem d_Cp_curve_69 : decode m_Cp_curve.2.1 69 = .ok (.aload_n 3, 1) ∧ 69 + 1 = 70 := ⟨by decide +kernel, rfl⟩
theorem d_Cp_curve_70 : decode m_Cp_curve.2.1 70 = .ok (.getfield 135, 3) ∧ 70 + 3 = 73 := ⟨by decide +kernel, rfl⟩
theorem d_Cp_curve_73 : decode m_Cp_curve.2.1 73 = .ok (.bipush 9, 2) ∧ 73 + 2 = 75 ∧ (Int8.ofInt 9).toInt32 = Int32.ofInt 9 := ⟨by decide +kernel, rfl, by decide +kernel⟩
theorem d_Cp_curve_75 : decode m_Cp_curve.2.1 75 = .ok (.iadd, 1) ∧ 75 + 1 = 76 := ⟨by decide +kernel, rfl⟩
theorem d_Cp_curve_76 : decode m_Cp_curve.2.1 76 = .ok (.ireturn, 1) := by decide +kernel
theorem d_Cp_curve_77 : decode m_Cp_curve.2.1 77 = .ok (.aload_n 3, 1) ∧ 77 + 1 = 78 := ⟨by decide +kernel, rfl⟩
theorem d_Cp_curve_78 : decode m_Cp_curve.2.1 78 = .ok (.getfield 138, 3) ∧ 78 + 3 = 81 := ⟨by decide +kernel, rfl⟩
theorem d_Cp_curve_81 : decode m_Cp_curve.2.1 81 = .ok (.bipush 9, 2) ∧ 81 + 2 = 83 ∧ (Int8.ofInt 9).toInt32 = Int32.ofInt 9 := ⟨by decide +kernel, rfl, by decide +kernel⟩
theorem d_Cp_curve_83 : decode m_Cp_curve.2.1 83 = .ok (.iadd, 1) ∧ 83 + 1 = 84 := ⟨by decide +kernel, rfl⟩
theorem d_Cp_curve_84 : decode m_Cp_curve.2.1 84 = .ok (.ireturn, 1) := by decide +kernel
theorem d_Cp_curve_85 : decode m_Cp_curve.2.1 85 = .ok (.aload_n 3, 1) ∧ 85 + 1 = 86 := ⟨by decide +kernel, rfl⟩
theorem d_Cp_curve_86 : decode m_Cp_curve.2.1 86 = .ok (.getfield 141, 3) ∧ 86 + 3 = 89 := ⟨by decide +kernel, rfl⟩
theorem d_Cp_curve_89 : decode m_Cp_curve.2.1 89 = .ok (.ireturn, 1) := by decide +kernel
theorem d_Cp_curve_90 : decode m_Cp_curve.2.1 90 = .ok (.aload_n 0, 1) ∧ 90 + 1 = 91 := ⟨by decide +kernel, rfl⟩
theorem d_Cp_curve_91 : decode m_Cp_curve.2.1 91 = .ok (.getfield 32, 3) ∧ 91 + 3 = 94 := ⟨by decide +kernel, rfl⟩
theorem d_Cp_curve_94 : decode m_Cp_curve.2.1 94 = .ok (.iload_n 1, 1) ∧ 94 + 1 = 95 := ⟨by decide +kernel, rfl⟩
theorem d_Cp_curve_95 : decode m_Cp_curve.2.1 95 = .ok (.aload_n 3, 1) ∧ 95 + 1 = 96 := ⟨by decide +kernel, rfl⟩
theorem d_Cp_curve_96 : decode m_Cp_curve.2.1 96 = .ok (.invokevirtual 144, 3) ∧ 96 + 3 = 99 := ⟨by decide +kernel, rfl⟩
theorem d_Cp_curve_99 : decode m_Cp_curve.2.1 99 = .ok (.ireturn, 1) := by decide +kernel
theorem d_Cp_curve_100 : decode m_Cp_curve.2.1 100 = .ok (.aload_n 0, 1) ∧ 100 + 1 = 101 := ⟨by decide +kernel, rfl⟩
theorem d_Cp_curve_101 : decode m_Cp_curve.2.1 101 = .ok (.getfield 32, 3) ∧ 101 + 3 = 104 := ⟨by decide +kernel, rfl⟩
theorem d_Cp_curve_104 : decode m_Cp_curve.2.1 104 = .ok (.iload_n 1, 1) ∧ 104 + 1 = 105 := ⟨by decide +kernel, rfl⟩
theorem d_Cp_curve_105 : decode m_Cp_curve.2.1 105 = .ok (.aload_n 3, 1) ∧ 105 + 1 = 106 := ⟨by decide +kernel, rfl⟩
theorem d_Cp_curve_106 : decode m_Cp_curve.2.1 106 = .ok (.invokevirtual 144, 3) ∧ 106 + 3 = 109 := ⟨by decide +kernel, rfl⟩
theorem d_Cp_curve_109 : decode m_Cp_curve.2.1 109 = .ok (.aload_n 3, 1) ∧ 109 + 1 = 110 := ⟨by decide +kernel, rfl⟩
theorem d_Cp_curve_110 : decode m_Cp_curve.2.1 110 = .ok (.invokestatic 148, 3) ∧ 110 + 3 = 113 := ⟨by decide +kernel, rfl⟩
theorem d_Cp_curve_113 : decode m_Cp_curve.2.1 113 = .ok (.ireturn, 1) := by decide +kernel
theorem d_Cp_curve_114 : decode m_Cp_curve.2.1 114 = .ok (.bipush (-102), 2) ∧ 114 + 2 = 116 ∧ (Int8.ofInt (-102)).toInt32 = Int32.ofInt (-102) := ⟨by decide +kernel, rfl, by decide +kernel⟩
theorem d_Cp_curve_116 : decode m_Cp_curve.2.1 116 = .ok (.ireturn, 1) := by decide +kernel
theorem d_Cp_as_0 : decode m_Cp_as.2.1 0 = .ok (.aload_n 0, 1) ∧ 0 + 1 = 1 := ⟨by decide +kernel, rfl⟩
theorem d_Cp_as_1 : decode m_Cp_as.2.1 1 = .ok (.getfield 19, 3) ∧ 1 + 3 = 4 := ⟨by decide +kernel, rfl⟩
theorem d_Cp_as_4 : decode m_Cp_as.2.1 4 = .ok (.iload_n 1, 1) ∧ 4 + 1 = 5 := ⟨by decide +kernel, rfl⟩
theorem d_Cp_as_5 : decode m_Cp_as.2.1 5 = .ok (.invokevirtual 123, 3) ∧ 5 + 3 = 8 := ⟨by decide +kernel, rfl⟩
theorem d_Cp_as_8 : decode m_Cp_as.2.1 8 = .ok (.ifCond .ne 6, 3) ∧ 8 + 3 = 11 ∧ (((8 : Nat) : Int) + (6) = ((14 : Nat) : Int)) := ⟨by decide +kernel, rfl, by decide⟩
theorem d_Cp_as_11 : decode m_Cp_as.2.1 11 = .ok (.bipush (-101), 2) ∧ 11 + 2 = 13 ∧ (Int8.ofInt (-101)).toInt32 = Int32.ofInt (-101) := ⟨by decide +kernel, rfl, by decide +kernel⟩
theorem d_Cp_as_13 : decode m_Cp_as.2.1 13 = .ok (.ireturn, 1) := by decide +kernel
theorem d_Cp_as_14 : decode m_Cp_as.2.1 14 = .ok (.iload_n 2, 1) ∧ 14 + 1 = 15 := ⟨by decide +kernel, rfl⟩
theorem d_Cp_as_15 : decode m_Cp_as.2.1 15 = .ok (.invokestatic 151, 3) ∧ 15 + 3 = 18 := ⟨by decide +kernel, rfl⟩
theorem d_Cp_as_18 : decode m_Cp_as.2.1 18 = .ok (.ifCond .ne 6, 3) ∧ 18 + 3 = 21 ∧ (((18 : Nat) : Int) + (6) = ((24 : Nat) : Int)) := ⟨by decide +kernel, rfl, by decide⟩
theorem d_Cp_as_21 : decode m_Cp_as.2.1 21 = .ok (.bipush (-102), 2) ∧ 21 + 2 = 23 ∧ (Int8.ofInt (-102)).toInt32 = Int32.ofInt (-102) := ⟨by decide +kernel, rfl, by decide +kernel⟩
theorem d_Cp_as_23 : decode m_Cp_as.2.1 23 = .ok (.ireturn, 1) := by decide +kernel
theorem d_Cp_as_24 : decode m_Cp_as.2.1 24 = .ok (.aload_n 0, 1) ∧ 24 + 1 = 25 := ⟨by decide +kernel, rfl⟩
theorem d_Cp_as_25 : decode m_Cp_as.2.1 25 = .ok (.getfield 19, 3) ∧ 25 + 3 = 28 := ⟨by decide +kernel, rfl⟩
theorem d_Cp_as_28 : decode m_Cp_as.2.1 28 = .ok (.getfield 126, 3) ∧ 28 + 3 = 31 := ⟨by decide +kernel, rfl⟩
theorem d_Cp_as_31 : decode m_Cp_as.2.1 31 = .ok (.iload_n 1, 1) ∧ 31 + 1 = 32 := ⟨by decide +kernel, rfl⟩
theorem d_Cp_as_32 : decode m_Cp_as.2.1 32 = .ok (.aaload, 1) ∧ 32 + 1 = 33 := ⟨by decide +kernel, rfl⟩
theorem d_Cp_as_33 : decode m_Cp_as.2.1 33 = .ok (.iload_n 2, 1) ∧ 33 + 1 = 34 := ⟨by decide +kernel, rfl⟩
theorem d_Cp_as_34 : decode m_Cp_as.2.1 34 = .ok (.invokevirtual 154, 3) ∧ 34 + 3 = 37 := ⟨by decide +kernel, rfl⟩
theorem d_Cp_as_37 : decode m_Cp_as.2.1 37 = .ok (.ifCond .eq 7, 3) ∧ 37 + 3 = 40 ∧ (((37 : Nat) : Int) + (7) = ((44 : Nat) : Int)) := ⟨by decide +kernel, rfl, by decide⟩
theorem d_Cp_as_40 : decode m_Cp_as.2.1 40 = .ok (.iload_n 1, 1) ∧ 40 + 1 = 41 := ⟨by decide +kernel, rfl⟩
theorem d_Cp_as_41 : decode m_Cp_as.2.1 41 = .ok (.goto 4, 3) ∧ (((41 : Nat) : Int) + (4) = ((45 : Nat) : Int)) := ⟨by decide +kernel, by decide⟩
theorem d_Cp_as_44 : decode m_Cp_as.2.1 44 = .ok (.iconst (-1), 1) ∧ 44 + 1 = 45 := ⟨by decide +kernel, rfl⟩
theorem d_Cp_as_45 : decode m_Cp_as.2.1 45 = .ok (.ireturn, 1) := by decide +kernel
theorem d_Cp_point_0 : decode m_Cp_point.2.1 0 = .ok (.iload_n 1, 1) ∧ 0 + 1 = 1 := ⟨by decide +kernel, rfl⟩
theorem d_Cp_point_1 : decode m_Cp_point.2.1 1 = .ok (.ifCond .lt 14, 3) ∧ 1 + 3 = 4 ∧ (((1 : Nat) : Int) + (14) = ((15 : Nat) : Int)) := ⟨by decide +kernel, rfl, by decide⟩
theorem d_Cp_point_4 : decode m_Cp_point.2.1 4 = .ok (.iload_n 1, 1) ∧ 4 + 1 = 5 := ⟨by decide +kernel, rfl⟩
theorem d_Cp_point_5 : decode m_Cp_point.2.1 5 = .ok (.aload_n 0, 1) ∧ 5 + 1 = 6 := ⟨by decide +kernel, rfl⟩
theorem d_Cp_point_6 : decode m_Cp_point.2.1 6 = .ok (.getfield 42, 3) ∧ 6 + 3 = 9 := ⟨by decide +kernel, rfl⟩
theorem d_Cp_point_9 : decode m_Cp_point.2.1 9 = .ok (.getfield 157, 3) ∧ 9 + 3 = 12 := ⟨by decide +kernel, rfl⟩
theorem d_Cp_point_12 : decode m_Cp_point.2.1 12 = .ok (.if_icmp .lt 6, 3) ∧ 12 + 3 = 15 ∧ (((12 : Nat) : Int) + (6) = ((18 : Nat) : Int)) := ⟨by decide +kernel, rfl, by decide⟩
theorem d_Cp_point_15 : decode m_Cp_point.2.1 15 = .ok (.bipush (-101), 2) ∧ 15 + 2 = 17 ∧ (Int8.ofInt (-101)).toInt32 = Int32.ofInt (-101) := ⟨by decide +kernel, rfl, by decide +kernel⟩
theorem d_Cp_point_17 : decode m_Cp_point.2.1 17 = .ok (.ireturn, 1) := by decide +kernel
theorem d_Cp_point_18 : decode m_Cp_point.2.1 18 = .ok (.iload_n 2, 1) ∧ 18 + 1 = 19 := ⟨by decide +kernel, rfl⟩
theorem d_Cp_point_19 : decode m_Cp_point.2.1 19 = .ok (.tableswitch 84 0 3 #[29, 45, 66, 75], 29) := by decide +kernel
theorem d_Cp_point_48 : decode m_Cp_point.2.1 48 = .ok (.ldc 160, 2) ∧ 48 + 2 = 50 := ⟨by decide +kernel, rfl⟩
theorem d_Cp_point_50 : decode m_Cp_point.2.1 50 = .ok (.aload_n 0, 1) ∧ 50 + 1 = 51 := ⟨by decide +kernel, rfl⟩
theorem d_Cp_point_51 : decode m_Cp_point.2.1 51 = .ok (.getfield 42, 3) ∧ 51 + 3 = 54 := ⟨by decide +kernel, rfl⟩
theorem d_Cp_point_54 : decode m_Cp_point.2.1 54 = .ok (.getfield 161, 3) ∧ 54 + 3 = 57 := ⟨by decide +kernel, rfl⟩
theorem d_Cp_point_57 : decode m_Cp_point.2.1 57 = .ok (.iload_n 1, 1) ∧ 57 + 1 = 58 := ⟨by decide +kernel, rfl⟩
theorem d_Cp_point_58 : decode m_Cp_point.2.1 58 = .ok (.aaload, 1) ∧ 58 + 1 = 59 := ⟨by decide +kernel, rfl⟩
theorem d_Cp_point_59 : decode m_Cp_point.2.1 59 = .ok (.invokevirtual 165, 3) ∧ 59 + 3 = 62 := ⟨by decide +kernel, rfl⟩
theorem d_Cp_point_62 : decode m_Cp_point.2.1 62 = .ok (.iadd, 1) ∧ 62 + 1 = 63 := ⟨by decide +kernel, rfl⟩
theorem d_Cp_point_63 : decode m_Cp_point.2.1 63 = .ok (.ireturn, 1) := by decide +kernel
theorem d_Cp_point_64 : decode m_Cp_point.2.1 64 = .ok (.aload_n 0, 1) ∧ 64 + 1 = 65 := ⟨by decide +kernel, rfl⟩
theorem d_Cp_point_65 : decode m_Cp_point.2.1 65 = .ok (.getfield 42, 3) ∧ 65 + 3 = 68 := ⟨by decide +kernel, rfl⟩
theorem d_Cp_point_68 : decode m_Cp_point.2.1 68 = .ok (.getfield 161, 3) ∧ 68 + 3 = 71 := ⟨by decide +kernel, rfl⟩
theorem d_Cp_point_71 : decode m_Cp_point.2.1 71 = .ok (.iload_n 1, 1) ∧ 71 + 1 = 72 := ⟨by decide +kernel, rfl⟩
theorem d_Cp_point_72 : decode m_Cp_point.2.1 72 = .ok (.aaload, 1) ∧ 72 + 1 = 73 := ⟨by decide +kernel, rfl⟩
theorem d_Cp_point_73 : decode m_Cp_point.2.1 73 = .ok (.invokevirtual 170, 3) ∧ 73 + 3 = 76 := ⟨by decide +kernel, rfl⟩
theorem d_Cp_point_76 : decode m_Cp_point.2.1 76 = .ok (.ifCond .eq 7, 3) ∧ 76 + 3 = 79 ∧ (((76 : Nat) : Int) + (7) = ((83 : Nat) : Int)) := ⟨by decide +kernel, rfl, by decide⟩
theorem d_Cp_point_79 : decode m_Cp_point.2.1 79 = .ok (.iconst 1, 1) ∧ 79 + 1 = 80 := ⟨by decide +kernel, rfl⟩
theorem d_Cp_point_80 : decode m_Cp_point.2.1 80 = .ok (.goto 4, 3) ∧ (((80 : Nat) : Int) + (4) = ((84 : Nat) : Int)) := ⟨by decide +kernel, by decide⟩
theorem d_Cp_point_83 : decode m_Cp_point.2.1 83 = .ok (.iconst 0, 1) ∧ 83 + 1 = 84 := ⟨by decide +kernel, rfl⟩
theorem d_Cp_point_84 : decode m_Cp_point.2.1 84 = .ok (.ireturn, 1) := by decide +kernel
theorem d_Cp_point_85 : decode m_Cp_point.2.1 85 = .ok (.aload_n 0, 1) ∧ 85 + 1 = 86 := ⟨by decide +kernel, rfl⟩
theorem d_Cp_point_86 : decode m_Cp_point.2.1 86 = .ok (.getfield 42, 3) ∧ 86 + 3 = 89 := ⟨by decide +kernel, rfl⟩
theorem d_Cp_point_89 : decode m_Cp_point.2.1 89 = .ok (.iload_n 1, 1) ∧ 89 + 1 = 90 := ⟨by decide +kernel, rfl⟩
theorem d_Cp_point_90 : decode m_Cp_point.2.1 90 = .ok (.invokevirtual 173, 3) ∧ 90 + 3 = 93 := ⟨by decide +kernel, rfl⟩
theorem d_Cp_point_93 : decode m_Cp_point.2.1 93 = .ok (.ireturn, 1) := by decide +kernel
theorem d_Cp_point_94 : decode m_Cp_point.2.1 94 = .ok (.aload_n 0, 1) ∧ 94 + 1 = 95 := ⟨by decide +kernel, rfl⟩
theorem d_Cp_point_95 : decode m_Cp_point.2.1 95 = .ok (.getfield 42, 3) ∧ 95 + 3 = 98 := ⟨by decide +kernel, rfl⟩
theorem d_Cp_point_98 : decode m_Cp_point.2.1 98 = .ok (.iload_n 1, 1) ∧ 98 + 1 = 99 := ⟨by decide +kernel, rfl⟩
theorem d_Cp_point_99 : decode m_Cp_point.2.1 99 = .ok (.invokevirtual 176, 3) ∧ 99 + 3 = 102 := ⟨by decide +kernel, rfl⟩
theorem d_Cp_point_102 : decode m_Cp_point.2.1 102 = .ok (.ireturn, 1) := by decide +kernel
theorem d_Cp_point_103 : decode m_Cp_point.2.1 103 = .ok (.bipush (-102), 2) ∧ 103 + 2 = 105 ∧ (Int8.ofInt (-102)).toInt32 = Int32.ofInt (-102) := ⟨by decide +kernel, rfl, by decide +kernel⟩
theorem d_Cp_point_105 : decode m_Cp_point.2.1 105 = .ok (.ireturn, 1) := by decide +kernel
theorem d_Cp_stack_0 : decode m_Cp_stack.2.1 0 = .ok (.aload_n 0, 1) ∧ 0 + 1 = 1 := ⟨by decide +kernel, rfl⟩
theorem d_Cp_stack_1 : decode m_Cp_stack.2.1 1 = .ok (.getfield 42, 3) ∧ 1 + 3 = 4 := ⟨by decide +kernel, rfl⟩
theorem d_Cp_stack_4 : decode m_Cp_stack.2.1 4 = .ok (.iload_n 1, 1) ∧ 4 + 1 = 5 := ⟨by decide +kernel, rfl⟩
theorem d_Cp_stack_5 : decode m_Cp_stack.2.1 5 = .ok (.invokevirtual 179, 3) ∧ 5 + 3 = 8 := ⟨by decide +kernel, rfl⟩
theorem d_Cp_stack_8 : decode m_Cp_stack.2.1 8 = .ok (.ifCond .eq 17, 3) ∧ 8 + 3 = 11 ∧ (((8 : Nat) : Int) + (17) = ((25 : Nat) : Int)) := ⟨by decide +kernel, rfl, by decide⟩
theorem d_Cp_stack_11 : decode m_Cp_stack.2.1 11 = .ok (.aload_n 0, 1) ∧ 11 + 1 = 12 := ⟨by decide +kernel, rfl⟩
theorem d_Cp_stack_12 : decode m_Cp_stack.2.1 12 = .ok (.getfield 42, 3) ∧ 12 + 3 = 15 := ⟨by decide +kernel, rfl⟩
theorem d_Cp_stack_15 : decode m_Cp_stack.2.1 15 = .ok (.getfield 180, 3) ∧ 15 + 3 = 18 := ⟨by decide +kernel, rfl⟩
theorem d_Cp_stack_18 : decode m_Cp_stack.2.1 18 = .ok (.iload_n 1, 1) ∧ 18 + 1 = 19 := ⟨by decide +kernel, rfl⟩
theorem d_Cp_stack_19 : decode m_Cp_stack.2.1 19 = .ok (.iaload, 1) ∧ 19 + 1 = 20 := ⟨by decide +kernel, rfl⟩
theorem d_Cp_stack_20 : decode m_Cp_stack.2.1 20 = .ok (.iconst 1, 1) ∧ 20 + 1 = 21 := ⟨by decide +kernel, rfl⟩
theorem d_Cp_stack_21 : decode m_Cp_stack.2.1 21 = .ok (.iadd, 1) ∧ 21 + 1 = 22 := ⟨by decide +kernel, rfl⟩
theorem d_Cp_stack_22 : decode m_Cp_stack.2.1 22 = .ok (.goto 5, 3) ∧ (((22 : Nat) : Int) + (5) = ((27 : Nat) : Int)) := ⟨by decide +kernel, by decide⟩
theorem d_Cp_stack_25 : decode m_Cp_stack.2.1 25 = .ok (.bipush (-101), 2) ∧ 25 + 2 = 27 ∧ (Int8.ofInt (-101)).toInt32 = Int32.ofInt (-101) := ⟨by decide +kernel, rfl, by decide +kernel⟩
theorem d_Cp_stack_27 : decode m_Cp_stack.2.1 27 = .ok (.ireturn, 1) := by decide +kernel
theorem d_Cp_cell_0 : decode m_Cp_cell.2.1 0 = .ok (.aload_n 0, 1) ∧ 0 + 1 = 1 := ⟨by decide +kernel, rfl⟩
theorem d_Cp_cell_1 : decode m_Cp_cell.2.1 1 = .ok (.getfield 42, 3) ∧ 1 + 3 = 4 := ⟨by decide +kernel, rfl⟩
theorem d_Cp_cell_4 : decode m_Cp_cell.2.1 4 = .ok (.iload_n 1, 1) ∧ 4 + 1 = 5 := ⟨by decide +kernel, rfl⟩
theorem d_Cp_cell_5 : decode m_Cp_cell.2.1 5 = .ok (.iload_n 2, 1) ∧ 5 + 1 = 6 := ⟨by decide +kernel, rfl⟩
theorem d_Cp_cell_6 : decode m_Cp_cell.2.1 6 = .ok (.invokevirtual 184, 3) ∧ 6 + 3 = 9 := ⟨by decide +kernel, rfl⟩
theorem d_Cp_cell_9 : decode m_Cp_cell.2.1 9 = .ok (.ifCond .eq 14, 3) ∧ 9 + 3 = 12 ∧ (((9 : Nat) : Int) + (14) = ((23 : Nat) : Int)) := ⟨by decide +kernel, rfl, by decide⟩
theorem d_Cp_cell_12 : decode m_Cp_cell.2.1 12 = .ok (.aload_n 0, 1) ∧ 12 + 1 = 13 := ⟨by decide +kernel, rfl⟩
theorem d_Cp_cell_13 : decode m_Cp_cell.2.1 13 = .ok (.getfield 19, 3) ∧ 13 + 3 = 16 := ⟨by decide +kernel, rfl⟩
theorem d_Cp_cell_16 : decode m_Cp_cell.2.1 16 = .ok (.iload_n 3, 1) ∧ 16 + 1 = 17 := ⟨by decide +kernel, rfl⟩
theorem d_Cp_cell_17 : decode m_Cp_cell.2.1 17 = .ok (.invokevirtual 123, 3) ∧ 17 + 3 = 20 := ⟨by decide +kernel, rfl⟩
theorem d_Cp_cell_20 : decode m_Cp_cell.2.1 20 = .ok (.ifCond .ne 6, 3) ∧ 20 + 3 = 23 ∧ (((20 : Nat) : Int) + (6) = ((26 : Nat) : Int)) := ⟨by decide +kernel, rfl, by decide⟩
theorem d_Cp_cell_23 : decode m_Cp_cell.2.1 23 = .ok (.bipush (-101), 2) ∧ 23 + 2 = 25 ∧ (Int8.ofInt (-101)).toInt32 = Int32.ofInt (-101) := ⟨by decide +kernel, rfl, by decide +kernel⟩
theorem d_Cp_cell_25 : decode m_Cp_cell.2.1 25 = .ok (.ireturn, 1) := by decide +kernel
theorem d_Cp_cell_26 : decode m_Cp_cell.2.1 26 = .ok (.aload_n 0, 1) ∧ 26 + 1 = 27 := ⟨by decide +kernel, rfl⟩
theorem d_Cp_cell_27 : decode m_Cp_cell.2.1 27 = .ok (.getfield 42, 3) ∧ 27 + 3 = 30 := ⟨by decide +kernel, rfl⟩
theorem d_Cp_cell_30 : decode m_Cp_cell.2.1 30 = .ok (.iload_n 1, 1) ∧ 30 + 1 = 31 := ⟨by decide +kernel, rfl⟩
theorem d_Cp_cell_31 : decode m_Cp_cell.2.1 31 = .ok (.iload_n 2, 1) ∧ 31 + 1 = 32 := ⟨by decide +kernel, rfl⟩
theorem d_Cp_cell_32 : decode m_Cp_cell.2.1 32 = .ok (.iload_n 3, 1) ∧ 32 + 1 = 33 := ⟨by decide +kernel, rfl⟩
theorem d_Cp_cell_33 : decode m_Cp_cell.2.1 33 = .ok (.invokevirtual 188, 3) ∧ 33 + 3 = 36 := ⟨by decide +kernel, rfl⟩
theorem d_Cp_cell_36 : decode m_Cp_cell.2.1 36 = .ok (.ireturn, 1) := by decide +kernel
theorem d_Cp_neighbours_0 : decode m_Cp_neighbours.2.1 0 = .ok (.aload_n 0, 1) ∧ 0 + 1 = 1 := ⟨by decide +kernel, rfl⟩
theorem d_Cp_neighbours_1 : decode m_Cp_neighbours.2.1 1 = .ok (.getfield 42, 3) ∧ 1 + 3 = 4 := ⟨by decide +kernel, rfl⟩
theorem d_Cp_neighbours_4 : decode m_Cp_neighbours.2.1 4 = .ok (.iload_n 1, 1) ∧ 4 + 1 = 5 := ⟨by decide +kernel, rfl⟩
theorem d_Cp_neighbours_5 : decode m_Cp_neighbours.2.1 5 = .ok (.iload_n 2, 1) ∧ 5 + 1 = 6 := ⟨by decide +kernel, rfl⟩
theorem d_Cp_neighbours_6 : decode m_Cp_neighbours.2.1 6 = .ok (.invokevirtual 184, 3) ∧ 6 + 3 = 9 := ⟨by decide +kernel, rfl⟩
theorem d_Cp_neighbours_9 : decode m_Cp_neighbours.2.1 9 = .ok (.ifCond .eq 15, 3) ∧ 9 + 3 = 12 ∧ (((9 : Nat) : Int) + (15) = ((24 : Nat) : Int)) := ⟨by decide +kernel, rfl, by decide⟩
theorem d_Cp_neighbours_12 : decode m_Cp_neighbours.2.1 12 = .ok (.aload_n 0, 1) ∧ 12 + 1 = 13 := ⟨by decide +kernel, rfl⟩
theorem d_Cp_neighbours_13 : decode m_Cp_neighbours.2.1 13 = .ok (.getfield 42, 3) ∧ 13 + 3 = 16 := ⟨by decide +kernel, rfl⟩
theorem d_Cp_neighbours_16 : decode m_Cp_neighbours.2.1 16 = .ok (.iload_n 1, 1) ∧ 16 + 1 = 17 := ⟨by decide +kernel, rfl⟩
theorem d_Cp_neighbours_17 : decode m_Cp_neighbours.2.1 17 = .ok (.iload_n 2, 1) ∧ 17 + 1 = 18 := ⟨by decide +kernel, rfl⟩
theorem d_Cp_neighbours_18 : decode m_Cp_neighbours.2.1 18 = .ok (.invokevirtual 192, 3) ∧ 18 + 3 = 21 := ⟨by decide +kernel, rfl⟩
theorem d_Cp_neighbours_21 : decode m_Cp_neighbours.2.1 21 = .ok (.goto 5, 3) ∧ (((21 : Nat) : Int) + (5) = ((26 : Nat) : Int)) := ⟨by decide +kernel, by decide⟩
theorem d_Cp_neighbours_24 : decode m_Cp_neighbours.2.1 24 = .ok (.bipush (-101), 2) ∧ 24 + 2 = 26 ∧ (Int8.ofInt (-101)).toInt32 = Int32.ofInt (-101) := ⟨by decide +kernel, rfl, by decide +kernel⟩
theorem d_Cp_neighbours_26 : decode m_Cp_neighbours.2.1 26 = .ok (.ireturn, 1) := by decide +kernel
theorem d_Cp_put_0 : decode m_Cp_put.2.1 0 = .ok (.iload_n 1, 1) ∧ 0 + 1 = 1 := ⟨by decide +kernel, rfl⟩
theorem d_Cp_put_1 : decode m_Cp_put.2.1 1 = .ok (.invokestatic 151, 3) ∧ 1 + 3 = 4 := ⟨by decide +kernel, rfl⟩
theorem d_Cp_put_4 : decode m_Cp_put.2.1 4 = .ok (.ifCond .eq 17, 3) ∧ 4 + 3 = 7 ∧ (((4 : Nat) : Int) + (17) = ((21 : Nat) : Int)) := ⟨by decide +kernel, rfl, by decide⟩
theorem d_Cp_put_7 : decode m_Cp_put.2.1 7 = .ok (.iload_n 2, 1) ∧ 7 + 1 = 8 := ⟨by decide +kernel, rfl⟩
theorem d_Cp_put_8 : decode m_Cp_put.2.1 8 = .ok (.invokestatic 196, 3) ∧ 8 + 3 = 11 := ⟨by decide +kernel, rfl⟩
theorem d_Cp_put_11 : decode m_Cp_put.2.1 11 = .ok (.ifCond .eq 10, 3) ∧ 11 + 3 = 14 ∧ (((11 : Nat) : Int) + (10) = ((21 : Nat) : Int)) := ⟨by decide +kernel, rfl, by decide⟩
theorem d_Cp_put_14 : decode m_Cp_put.2.1 14 = .ok (.iload_n 3, 1) ∧ 14 + 1 = 15 := ⟨by decide +kernel, rfl⟩
theorem d_Cp_put_15 : decode m_Cp_put.2.1 15 = .ok (.invokestatic 196, 3) ∧ 15 + 3 = 18 := ⟨by decide +kernel, rfl⟩
theorem d_Cp_put_18 : decode m_Cp_put.2.1 18 = .ok (.ifCond .ne 6, 3) ∧ 18 + 3 = 21 ∧ (((18 : Nat) : Int) + (6) = ((24 : Nat) : Int)) := ⟨by decide +kernel, rfl, by decide⟩
theorem d_Cp_put_21 : decode m_Cp_put.2.1 21 = .ok (.bipush (-102), 2) ∧ 21 + 2 = 23 ∧ (Int8.ofInt (-102)).toInt32 = Int32.ofInt (-102) := ⟨by decide +kernel, rfl, by decide +kernel⟩
theorem d_Cp_put_23 : decode m_Cp_put.2.1 23 = .ok (.ireturn, 1) := by decide +kernel
theorem d_Cp_put_24 : decode m_Cp_put.2.1 24 = .ok (.aload_n 0, 1) ∧ 24 + 1 = 25 := ⟨by decide +kernel, rfl⟩
theorem d_Cp_put_25 : decode m_Cp_put.2.1 25 = .ok (.getfield 19, 3) ∧ 25 + 3 = 28 := ⟨by decide +kernel, rfl⟩
theorem d_Cp_put_28 : decode m_Cp_put.2.1 28 = .ok (.getfield 106, 3) ∧ 28 + 3 = 31 := ⟨by decide +kernel, rfl⟩
theorem d_Cp_put_31 : decode m_Cp_put.2.1 31 = .ok (.ifCond .ne 6, 3) ∧ 31 + 3 = 34 ∧ (((31 : Nat) : Int) + (6) = ((37 : Nat) : Int)) := ⟨by decide +kernel, rfl, by decide⟩
theorem d_Cp_put_34 : decode m_Cp_put.2.1 34 = .ok (.bipush (-103), 2) ∧ 34 + 2 = 36 ∧ (Int8.ofInt (-103)).toInt32 = Int32.ofInt (-103) := ⟨by decide +kernel, rfl, by decide +kernel⟩
theorem d_Cp_put_36 : decode m_Cp_put.2.1 36 = .ok (.ireturn, 1) := by decide +kernel
theorem d_Cp_put_37 : decode m_Cp_put.2.1 37 = .ok (.aload_n 0, 1) ∧ 37 + 1 = 38 := ⟨by decide +kernel, rfl⟩
theorem d_Cp_put_38 : decode m_Cp_put.2.1 38 = .ok (.getfield 19, 3) ∧ 38 + 3 = 41 := ⟨by decide +kernel, rfl⟩
theorem d_Cp_put_41 : decode m_Cp_put.2.1 41 = .ok (.getfield 106, 3) ∧ 41 + 3 = 44 := ⟨by decide +kernel, rfl⟩
theorem d_Cp_put_44 : decode m_Cp_put.2.1 44 = .ok (.iconst 4, 1) ∧ 44 + 1 = 45 := ⟨by decide +kernel, rfl⟩
theorem d_Cp_put_45 : decode m_Cp_put.2.1 45 = .ok (.if_icmp .lt 6, 3) ∧ 45 + 3 = 48 ∧ (((45 : Nat) : Int) + (6) = ((51 : Nat) : Int)) := ⟨by decide +kernel, rfl, by decide⟩
theorem d_Cp_put_48 : decode m_Cp_put.2.1 48 = .ok (.bipush (-104), 2) ∧ 48 + 2 = 50 ∧ (Int8.ofInt (-104)).toInt32 = Int32.ofInt (-104) := ⟨by decide +kernel, rfl, by decide +kernel⟩
theorem d_Cp_put_50 : decode m_Cp_put.2.1 50 = .ok (.ireturn, 1) := by decide +kernel
theorem d_Cp_put_51 : decode m_Cp_put.2.1 51 = .ok (.aload_n 0, 1) ∧ 51 + 1 = 52 := ⟨by decide +kernel, rfl⟩
theorem d_Cp_put_52 : decode m_Cp_put.2.1 52 = .ok (.iload_n 1, 1) ∧ 52 + 1 = 53 := ⟨by decide +kernel, rfl⟩
theorem d_Cp_put_53 : decode m_Cp_put.2.1 53 = .ok (.iload_n 2, 1) ∧ 53 + 1 = 54 := ⟨by decide +kernel, rfl⟩
theorem d_Cp_put_54 : decode m_Cp_put.2.1 54 = .ok (.iload_n 3, 1) ∧ 54 + 1 = 55 := ⟨by decide +kernel, rfl⟩
theorem d_Cp_put_55 : decode m_Cp_put.2.1 55 = .ok (.invokevirtual 114, 3) ∧ 55 + 3 = 58 := ⟨by decide +kernel, rfl⟩
theorem d_Cp_put_58 : decode m_Cp_put.2.1 58 = .ok (.aload_n 0, 1) ∧ 58 + 1 = 59 := ⟨by decide +kernel, rfl⟩
theorem d_Cp_put_59 : decode m_Cp_put.2.1 59 = .ok (.getfield 42, 3) ∧ 59 + 3 = 62 := ⟨by decide +kernel, rfl⟩
theorem d_Cp_put_62 : decode m_Cp_put.2.1 62 = .ok (.aload_n 0, 1) ∧ 62 + 1 = 63 := ⟨by decide +kernel, rfl⟩
theorem d_Cp_put_63 : decode m_Cp_put.2.1 63 = .ok (.getfield 19, 3) ∧ 63 + 3 = 66 := ⟨by decide +kernel, rfl⟩
theorem d_Cp_put_66 : decode m_Cp_put.2.1 66 = .ok (.invokevirtual 119, 3) ∧ 66 + 3 = 69 := ⟨by decide +kernel, rfl⟩
theorem d_Cp_put_69 : decode m_Cp_put.2.1 69 = .ok (.aload_n 0, 1) ∧ 69 + 1 = 70 := ⟨by decide +kernel, rfl⟩
theorem d_Cp_put_70 : decode m_Cp_put.2.1 70 = .ok (.getfield 19, 3) ∧ 70 + 3 = 73 := ⟨by decide +kernel, rfl⟩
theorem d_Cp_put_73 : decode m_Cp_put.2.1 73 = .ok (.getfield 106, 3) ∧ 73 + 3 = 76 := ⟨by decide +kernel, rfl⟩
theorem d_Cp_put_76 : decode m_Cp_put.2.1 76 = .ok (.ireturn, 1) := by decide +kernel
theorem d_Cp_take_0 : decode m_Cp_take.2.1 0 = .ok (.aload_n 0, 1) ∧ 0 + 1 = 1 := ⟨by decide +kernel, rfl⟩
theorem d_Cp_take_1 : decode m_Cp_take.2.1 1 = .ok (.getfield 19, 3) ∧ 1 + 3 = 4 := ⟨by decide +kernel, rfl⟩
theorem d_Cp_take_4 : decode m_Cp_take.2.1 4 = .ok (.iload_n 1, 1) ∧ 4 + 1 = 5 := ⟨by decide +kernel, rfl⟩
theorem d_Cp_take_5 : decode m_Cp_take.2.1 5 = .ok (.invokevirtual 123, 3) ∧ 5 + 3 = 8 := ⟨by decide +kernel, rfl⟩
theorem d_Cp_take_8 : decode m_Cp_take.2.1 8 = .ok (.ifCond .ne 6, 3) ∧ 8 + 3 = 11 ∧ (((8 : Nat) : Int) + (6) = ((14 : Nat) : Int)) := ⟨by decide +kernel, rfl, by decide⟩
theorem d_Cp_take_11 : decode m_Cp_take.2.1 11 = .ok (.bipush (-101), 2) ∧ 11 + 2 = 13 ∧ (Int8.ofInt (-101)).toInt32 = Int32.ofInt (-101) := ⟨by decide +kernel, rfl, by decide +kernel⟩
theorem d_Cp_take_13 : decode m_Cp_take.2.1 13 = .ok (.ireturn, 1) := by decide +kernel
theorem d_Cp_take_14 : decode m_Cp_take.2.1 14 = .ok (.aload_n 0, 1) ∧ 14 + 1 = 15 := ⟨by decide +kernel, rfl⟩
theorem d_Cp_take_15 : decode m_Cp_take.2.1 15 = .ok (.getfield 19, 3) ∧ 15 + 3 = 18 := ⟨by decide +kernel, rfl⟩
theorem d_Cp_take_18 : decode m_Cp_take.2.1 18 = .ok (.getfield 106, 3) ∧ 18 + 3 = 21 := ⟨by decide +kernel, rfl⟩
theorem d_Cp_take_21 : decode m_Cp_take.2.1 21 = .ok (.iconst 1, 1) ∧ 21 + 1 = 22 := ⟨by decide +kernel, rfl⟩
theorem d_Cp_take_22 : decode m_Cp_take.2.1 22 = .ok (.if_icmp .ne 6, 3) ∧ 22 + 3 = 25 ∧ (((22 : Nat) : Int) + (6) = ((28 : Nat) : Int)) := ⟨by decide +kernel, rfl, by decide⟩
theorem d_Cp_take_25 : decode m_Cp_take.2.1 25 = .ok (.bipush (-103), 2) ∧ 25 + 2 = 27 ∧ (Int8.ofInt (-103)).toInt32 = Int32.ofInt (-103) := ⟨by decide +kernel, rfl, by decide +kernel⟩
theorem d_Cp_take_27 : decode m_Cp_take.2.1 27 = .ok (.ireturn, 1) := by decide +kernel
theorem d_Cp_take_28 : decode m_Cp_take.2.1 28 = .ok (.aload_n 0, 1) ∧ 28 + 1 = 29 := ⟨by decide +kernel, rfl⟩
theorem d_Cp_take_29 : decode m_Cp_take.2.1 29 = .ok (.getfield 19, 3) ∧ 29 + 3 = 32 := ⟨by decide +kernel, rfl⟩
theorem d_Cp_take_32 : decode m_Cp_take.2.1 32 = .ok (.getfield 126, 3) ∧ 32 + 3 = 35 := ⟨by decide +kernel, rfl⟩
theorem d_Cp_take_35 : decode m_Cp_take.2.1 35 = .ok (.iload_n 1, 1) ∧ 35 + 1 = 36 := ⟨by decide +kernel, rfl⟩
theorem d_Cp_take_36 : decode m_Cp_take.2.1 36 = .ok (.aaload, 1) ∧ 36 + 1 = 37 := ⟨by decide +kernel, rfl⟩
theorem d_Cp_take_37 : decode m_Cp_take.2.1 37 = .ok (.getfield 141, 3) ∧ 37 + 3 = 40 := ⟨by decide +kernel, rfl⟩
theorem d_Cp_take_40 : decode m_Cp_take.2.1 40 = .ok (.istore_n 2, 1) ∧ 40 + 1 = 41 := ⟨by decide +kernel, rfl⟩
theorem d_Cp_take_41 : decode m_Cp_take.2.1 41 = .ok (.aload_n 0, 1) ∧ 41 + 1 = 42 := ⟨by decide +kernel, rfl⟩
theorem d_Cp_take_42 : decode m_Cp_take.2.1 42 = .ok (.getfield 19, 3) ∧ 42 + 3 = 45 := ⟨by decide +kernel, rfl⟩
theorem d_Cp_take_45 : decode m_Cp_take.2.1 45 = .ok (.iload_n 1, 1) ∧ 45 + 1 = 46 := ⟨by decide +kernel, rfl⟩
theorem d_Cp_take_46 : decode m_Cp_take.2.1 46 = .ok (.invokevirtual 199, 3) ∧ 46 + 3 = 49 := ⟨by decide +kernel, rfl⟩
theorem d_Cp_take_49 : decode m_Cp_take.2.1 49 = .ok (.aload_n 0, 1) ∧ 49 + 1 = 50 := ⟨by decide +kernel, rfl⟩
theorem d_Cp_take_50 : decode m_Cp_take.2.1 50 = .ok (.getfield 42, 3) ∧ 50 + 3 = 53 := ⟨by decide +kernel, rfl⟩
theorem d_Cp_take_53 : decode m_Cp_take.2.1 53 = .ok (.aload_n 0, 1) ∧ 53 + 1 = 54 := ⟨by decide +kernel, rfl⟩
theorem d_Cp_take_54 : decode m_Cp_take.2.1 54 = .ok (.getfield 19, 3) ∧ 54 + 3 = 57 := ⟨by decide +kernel, rfl⟩
theorem d_Cp_take_57 : decode m_Cp_take.2.1 57 = .ok (.invokevirtual 119, 3) ∧ 57 + 3 = 60 := ⟨by decide +kernel, rfl⟩
theorem d_Cp_take_60 : decode m_Cp_take.2.1 60 = .ok (.iload_n 2, 1) ∧ 60 + 1 = 61 := ⟨by decide +kernel, rfl⟩
theorem d_Cp_take_61 : decode m_Cp_take.2.1 61 = .ok (.ireturn, 1) := by decide +kernel
theorem d_Cp_move_0 : decode m_Cp_move.2.1 0 = .ok (.aload_n 0, 1) ∧ 0 + 1 = 1 := ⟨by decide +kernel, rfl⟩
theorem d_Cp_move_1 : decode m_Cp_move.2.1 1 = .ok (.getfield 19, 3) ∧ 1 + 3 = 4 := ⟨by decide +kernel, rfl⟩
theorem d_Cp_move_4 : decode m_Cp_move.2.1 4 = .ok (.iload_n 1, 1) ∧ 4 + 1 = 5 := ⟨by decide +kernel, rfl⟩
theorem d_Cp_move_5 : decode m_Cp_move.2.1 5 = .ok (.invokevirtual 123, 3) ∧ 5 + 3 = 8 := ⟨by decide +kernel, rfl⟩
theorem d_Cp_move_8 : decode m_Cp_move.2.1 8 = .ok (.ifCond .ne 6, 3) ∧ 8 + 3 = 11 ∧ (((8 : Nat) : Int) + (6) = ((14 : Nat) : Int)) := ⟨by decide +kernel, rfl, by decide⟩
theorem d_Cp_move_11 : decode m_Cp_move.2.1 11 = .ok (.bipush (-101), 2) ∧ 11 + 2 = 13 ∧ (Int8.ofInt (-101)).toInt32 = Int32.ofInt (-101) := ⟨by decide +kernel, rfl, by decide +kernel⟩
theorem d_Cp_move_13 : decode m_Cp_move.2.1 13 = .ok (.ireturn, 1) := by decide +kernel
theorem d_Cp_move_14 : decode m_Cp_move.2.1 14 = .ok (.iload_n 2, 1) ∧ 14 + 1 = 15 := ⟨by decide +kernel, rfl⟩
theorem d_Cp_move_15 : decode m_Cp_move.2.1 15 = .ok (.invokestatic 196, 3) ∧ 15 + 3 = 18 := ⟨by decide +kernel, rfl⟩
theorem d_Cp_move_18 : decode m_Cp_move.2.1 18 = .ok (.ifCond .eq 10, 3) ∧ 18 + 3 = 21 ∧ (((18 : Nat) : Int) + (10) = ((28 : Nat) : Int)) := ⟨by decide +kernel, rfl, by decide⟩
theorem d_Cp_move_21 : decode m_Cp_move.2.1 21 = .ok (.iload_n 3, 1) ∧ 21 + 1 = 22 := ⟨by decide +kernel, rfl⟩
theorem d_Cp_move_22 : decode m_Cp_move.2.1 22 = .ok (.invokestatic 196, 3) ∧ 22 + 3 = 25 := ⟨by decide +kernel, rfl⟩
theorem d_Cp_move_25 : decode m_Cp_move.2.1 25 = .ok (.ifCond .ne 6, 3) ∧ 25 + 3 = 28 ∧ (((25 : Nat) : Int) + (6) = ((31 : Nat) : Int)) := ⟨by decide +kernel, rfl, by decide⟩
theorem d_Cp_move_28 : decode m_Cp_move.2.1 28 = .ok (.bipush (-102), 2) ∧ 28 + 2 = 30 ∧ (Int8.ofInt (-102)).toInt32 = Int32.ofInt (-102) := ⟨by decide +kernel, rfl, by decide +kernel⟩
theorem d_Cp_move_30 : decode m_Cp_move.2.1 30 = .ok (.ireturn, 1) := by decide +kernel
theorem d_Cp_move_31 : decode m_Cp_move.2.1 31 = .ok (.aload_n 0, 1) ∧ 31 + 1 = 32 := ⟨by decide +kernel, rfl⟩
theorem d_Cp_move_32 : decode m_Cp_move.2.1 32 = .ok (.getfield 19, 3) ∧ 32 + 3 = 35 := ⟨by decide +kernel, rfl⟩
theorem d_Cp_move_35 : decode m_Cp_move.2.1 35 = .ok (.getfield 126, 3) ∧ 35 + 3 = 38 := ⟨by decide +kernel, rfl⟩
theorem d_Cp_move_38 : decode m_Cp_move.2.1 38 = .ok (.iload_n 1, 1) ∧ 38 + 1 = 39 := ⟨by decide +kernel, rfl⟩
theorem d_Cp_move_39 : decode m_Cp_move.2.1 39 = .ok (.aaload, 1) ∧ 39 + 1 = 40 := ⟨by decide +kernel, rfl⟩
theorem d_Cp_move_40 : decode m_Cp_move.2.1 40 = .ok (.iload_n 2, 1) ∧ 40 + 1 = 41 := ⟨by decide +kernel, rfl⟩
theorem d_Cp_move_41 : decode m_Cp_move.2.1 41 = .ok (.putfield 135, 3) ∧ 41 + 3 = 44 := ⟨by decide +kernel, rfl⟩
theorem d_Cp_move_44 : decode m_Cp_move.2.1 44 = .ok (.aload_n 0, 1) ∧ 44 + 1 = 45 := ⟨by decide +kernel, rfl⟩
theorem d_Cp_move_45 : decode m_Cp_move.2.1 45 = .ok (.getfield 19, 3) ∧ 45 + 3 = 48 := ⟨by decide +kernel, rfl⟩
theorem d_Cp_move_48 : decode m_Cp_move.2.1 48 = .ok (.getfield 126, 3) ∧ 48 + 3 = 51 := ⟨by decide +kernel, rfl⟩
theorem d_Cp_move_51 : decode m_Cp_move.2.1 51 = .ok (.iload_n 1, 1) ∧ 51 + 1 = 52 := ⟨by decide +kernel, rfl⟩
theorem d_Cp_move_52 : decode m_Cp_move.2.1 52 = .ok (.aaload, 1) ∧ 52 + 1 = 53 := ⟨by decide +kernel, rfl⟩
theorem d_Cp_move_53 : decode m_Cp_move.2.1 53 = .ok (.iload_n 3, 1) ∧ 53 + 1 = 54 := ⟨by decide +kernel, rfl⟩
theorem d_Cp_move_54 : decode m_Cp_move.2.1 54 = .ok (.putfield 138, 3) ∧ 54 + 3 = 57 := ⟨by decide +kernel, rfl⟩
theorem d_Cp_move_57 : decode m_Cp_move.2.1 57 = .ok (.aload_n 0, 1) ∧ 57 + 1 = 58 := ⟨by decide +kernel, rfl⟩
theorem d_Cp_move_58 : decode m_Cp_move.2.1 58 = .ok (.getfield 42, 3) ∧ 58 + 3 = 61 := ⟨by decide +kernel, rfl⟩
theorem d_Cp_move_61 : decode m_Cp_move.2.1 61 = .ok (.aload_n 0, 1) ∧ 61 + 1 = 62 := ⟨by decide +kernel, rfl⟩
theorem d_Cp_move_62 : decode m_Cp_move.2.1 62 = .ok (.getfield 19, 3) ∧ 62 + 3 = 65 := ⟨by decide +kernel, rfl⟩
theorem d_Cp_move_65 : decode m_Cp_move.2.1 65 = .ok (.invokevirtual 119, 3) ∧ 65 + 3 = 68 := ⟨by decide +kernel, rfl⟩
theorem d_Cp_move_68 : decode m_Cp_move.2.1 68 = .ok (.aload_n 0, 1) ∧ 68 + 1 = 69 := ⟨by decide +kernel, rfl⟩
theorem d_Cp_move_69 : decode m_Cp_move.2.1 69 = .ok (.getfield 42, 3) ∧ 69 + 3 = 72 := ⟨by decide +kernel, rfl⟩
theorem d_Cp_move_72 : decode m_Cp_move.2.1 72 = .ok (.invokevirtual 203, 3) ∧ 72 + 3 = 75 := ⟨by decide +kernel, rfl⟩
theorem d_Cp_move_75 : decode m_Cp_move.2.1 75 = .ok (.ireturn, 1) := by decide +kernel
theorem d_Cp_change_0 : decode m_Cp_change.2.1 0 = .ok (.aload_n 0, 1) ∧ 0 + 1 = 1 := ⟨by decide +kernel, rfl⟩
theorem d_Cp_change_1 : decode m_Cp_change.2.1 1 = .ok (.getfield 19, 3) ∧ 1 + 3 = 4 := ⟨by decide +kernel, rfl⟩
theorem d_Cp_change_4 : decode m_Cp_change.2.1 4 = .ok (.iload_n 1, 1) ∧ 4 + 1 = 5 := ⟨by decide +kernel, rfl⟩
theorem d_Cp_change_5 : decode m_Cp_change.2.1 5 = .ok (.invokevirtual 123, 3) ∧ 5 + 3 = 8 := ⟨by decide +kernel, rfl⟩
theorem d_Cp_change_8 : decode m_Cp_change.2.1 8 = .ok (.ifCond .ne 6, 3) ∧ 8 + 3 = 11 ∧ (((8 : Nat) : Int) + (6) = ((14 : Nat) : Int)) := ⟨by decide +kernel, rfl, by decide⟩
theorem d_Cp_change_11 : decode m_Cp_change.2.1 11 = .ok (.bipush (-101), 2) ∧ 11 + 2 = 13 ∧ (Int8.ofInt (-101)).toInt32 = Int32.ofInt (-101) := ⟨by decide +kernel, rfl, by decide +kernel⟩
theorem d_Cp_change_13 : decode m_Cp_change.2.1 13 = .ok (.ireturn, 1) := by decide +kernel
theorem d_Cp_change_14 : decode m_Cp_change.2.1 14 = .ok (.iload_n 2, 1) ∧ 14 + 1 = 15 := ⟨by decide +kernel, rfl⟩
theorem d_Cp_change_15 : decode m_Cp_change.2.1 15 = .ok (.invokestatic 151, 3) ∧ 15 + 3 = 18 := ⟨by decide +kernel, rfl⟩
theorem d_Cp_change_18 : decode m_Cp_change.2.1 18 = .ok (.ifCond .ne 6, 3) ∧ 18 + 3 = 21 ∧ (((18 : Nat) : Int) + (6) = ((24 : Nat) : Int)) := ⟨by decide +kernel, rfl, by decide⟩
theorem d_Cp_change_21 : decode m_Cp_change.2.1 21 = .ok (.bipush (-102), 2) ∧ 21 + 2 = 23 ∧ (Int8.ofInt (-102)).toInt32 = Int32.ofInt (-102) := ⟨by decide +kernel, rfl, by decide +kernel⟩
theorem d_Cp_change_23 : decode m_Cp_change.2.1 23 = .ok (.ireturn, 1) := by decide +kernel
theorem d_Cp_change_24 : decode m_Cp_change.2.1 24 = .ok (.aload_n 0, 1) ∧ 24 + 1 = 25 := ⟨by decide +kernel, rfl⟩
theorem d_Cp_change_25 : decode m_Cp_change.2.1 25 = .ok (.getfield 19, 3) ∧ 25 + 3 = 28 := ⟨by decide +kernel, rfl⟩
theorem d_Cp_change_28 : decode m_Cp_change.2.1 28 = .ok (.getfield 126, 3) ∧ 28 + 3 = 31 := ⟨by decide +kernel, rfl⟩
theorem d_Cp_change_31 : decode m_Cp_change.2.1 31 = .ok (.iload_n 1, 1) ∧ 31 + 1 = 32 := ⟨by decide +kernel, rfl⟩
theorem d_Cp_change_32 : decode m_Cp_change.2.1 32 = .ok (.aaload, 1) ∧ 32 + 1 = 33 := ⟨by decide +kernel, rfl⟩
theorem d_Cp_change_33 : decode m_Cp_change.2.1 33 = .ok (.getfield 130, 3) ∧ 33 + 3 = 36 := ⟨by decide +kernel, rfl⟩
theorem d_Cp_change_36 : decode m_Cp_change.2.1 36 = .ok (.istore_n 3, 1) ∧ 36 + 1 = 37 := ⟨by decide +kernel, rfl⟩
theorem d_Cp_change_37 : decode m_Cp_change.2.1 37 = .ok (.aload_n 0, 1) ∧ 37 + 1 = 38 := ⟨by decide +kernel, rfl⟩
theorem d_Cp_change_38 : decode m_Cp_change.2.1 38 = .ok (.getfield 19, 3) ∧ 38 + 3 = 41 := ⟨by decide +kernel, rfl⟩
theorem d_Cp_change_41 : decode m_Cp_change.2.1 41 = .ok (.getfield 126, 3) ∧ 41 + 3 = 44 := ⟨by decide +kernel, rfl⟩
theorem d_Cp_change_44 : decode m_Cp_change.2.1 44 = .ok (.iload_n 1, 1) ∧ 44 + 1 = 45 := ⟨by decide +kernel, rfl⟩
theorem d_Cp_change_45 : decode m_Cp_change.2.1 45 = .ok (.aaload, 1) ∧ 45 + 1 = 46 := ⟨by decide +kernel, rfl⟩
theorem d_Cp_change_46 : decode m_Cp_change.2.1 46 = .ok (.iload_n 2, 1) ∧ 46 + 1 = 47 := ⟨by decide +kernel, rfl⟩
theorem d_Cp_change_47 : decode m_Cp_change.2.1 47 = .ok (.putfield 130, 3) ∧ 47 + 3 = 50 := ⟨by decide +kernel, rfl⟩
theorem d_Cp_change_50 : decode m_Cp_change.2.1 50 = .ok (.aload_n 0, 1) ∧ 50 + 1 = 51 := ⟨by decide +kernel, rfl⟩
theorem d_Cp_change_51 : decode m_Cp_change.2.1 51 = .ok (.getfield 42, 3) ∧ 51 + 3 = 54 := ⟨by decide +kernel, rfl⟩
theorem d_Cp_change_54 : decode m_Cp_change.2.1 54 = .ok (.aload_n 0, 1) ∧ 54 + 1 = 55 := ⟨by decide +kernel, rfl⟩
theorem d_Cp_change_55 : decode m_Cp_change.2.1 55 = .ok (.getfield 19, 3) ∧ 55 + 3 = 58 := ⟨by decide +kernel, rfl⟩
theorem d_Cp_change_58 : decode m_Cp_change.2.1 58 = .ok (.invokevirtual 119, 3) ∧ 58 + 3 = 61 := ⟨by decide +kernel, rfl⟩
theorem d_Cp_change_61 : decode m_Cp_change.2.1 61 = .ok (.iload_n 3, 1) ∧ 61 + 1 = 62 := ⟨by decide +kernel, rfl⟩
theorem d_Cp_change_62 : decode m_Cp_change.2.1 62 = .ok (.ireturn, 1) := by decide +kernel
theorem d_Cp_mirror_0 : decode m_Cp_mirror.2.1 0 = .ok (.aload_n 0, 1) ∧ 0 + 1 = 1 := ⟨by decide +kernel, rfl⟩
theorem d_Cp_mirror_1 : decode m_Cp_mirror.2.1 1 = .ok (.getfield 19, 3) ∧ 1 + 3 = 4 := ⟨by decide +kernel, rfl⟩
theorem d_Cp_mirror_4 : decode m_Cp_mirror.2.1 4 = .ok (.getfield 106, 3) ∧ 4 + 3 = 7 := ⟨by decide +kernel, rfl⟩
theorem d_Cp_mirror_7 : decode m_Cp_mirror.2.1 7 = .ok (.ifCond .ne 6, 3) ∧ 7 + 3 = 10 ∧ (((7 : Nat) : Int) + (6) = ((13 : Nat) : Int)) := ⟨by decide +kernel, rfl, by decide⟩
theorem d_Cp_mirror_10 : decode m_Cp_mirror.2.1 10 = .ok (.bipush (-103), 2) ∧ 10 + 2 = 12 ∧ (Int8.ofInt (-103)).toInt32 = Int32.ofInt (-103) := ⟨by decide +kernel, rfl, by decide +kernel⟩
theorem d_Cp_mirror_12 : decode m_Cp_mirror.2.1 12 = .ok (.ireturn, 1) := by decide +kernel
theorem d_Cp_mirror_13 : decode m_Cp_mirror.2.1 13 = .ok (.iconst 0, 1) ∧ 13 + 1 = 14 := ⟨by decide +kernel, rfl⟩
theorem d_Cp_mirror_14 : decode m_Cp_mirror.2.1 14 = .ok (.istore_n 1, 1) ∧ 14 + 1 = 15 := ⟨by decide +kernel, rfl⟩
theorem d_Cp_mirror_15 : decode m_Cp_mirror.2.1 15 = .ok (.iload_n 1, 1) ∧ 15 + 1 = 16 := ⟨by decide +kernel, rfl⟩
theorem d_Cp_mirror_16 : decode m_Cp_mirror.2.1 16 = .ok (.aload_n 0, 1) ∧ 16 + 1 = 17 := ⟨by decide +kernel, rfl⟩
theorem d_Cp_mirror_17 : decode m_Cp_mirror.2.1 17 = .ok (.getfield 19, 3) ∧ 17 + 3 = 20 := ⟨by decide +kernel, rfl⟩
theorem d_Cp_mirror_20 : decode m_Cp_mirror.2.1 20 = .ok (.getfield 106, 3) ∧ 20 + 3 = 23 := ⟨by decide +kernel, rfl⟩
theorem d_Cp_mirror_23 : decode m_Cp_mirror.2.1 23 = .ok (.if_icmp .ge 21, 3) ∧ 23 + 3 = 26 ∧ (((23 : Nat) : Int) + (21) = ((44 : Nat) : Int)) := ⟨by decide +kernel, rfl, by decide⟩
theorem d_Cp_mirror_26 : decode m_Cp_mirror.2.1 26 = .ok (.aload_n 0, 1) ∧ 26 + 1 = 27 := ⟨by decide +kernel, rfl⟩
theorem d_Cp_mirror_27 : decode m_Cp_mirror.2.1 27 = .ok (.getfield 19, 3) ∧ 27 + 3 = 30 := ⟨by decide +kernel, rfl⟩
theorem d_Cp_mirror_30 : decode m_Cp_mirror.2.1 30 = .ok (.getfield 126, 3) ∧ 30 + 3 = 33 := ⟨by decide +kernel, rfl⟩
theorem d_Cp_mirror_33 : decode m_Cp_mirror.2.1 33 = .ok (.iload_n 1, 1) ∧ 33 + 1 = 34 := ⟨by decide +kernel, rfl⟩
theorem d_Cp_mirror_34 : decode m_Cp_mirror.2.1 34 = .ok (.aaload, 1) ∧ 34 + 1 = 35 := ⟨by decide +kernel, rfl⟩
theorem d_Cp_mirror_35 : decode m_Cp_mirror.2.1 35 = .ok (.invokevirtual 206, 3) ∧ 35 + 3 = 38 := ⟨by decide +kernel, rfl⟩
theorem d_Cp_mirror_38 : decode m_Cp_mirror.2.1 38 = .ok (.iinc 1 1, 3) ∧ 38 + 3 = 41 := ⟨by decide +kernel, rfl⟩
theorem d_Cp_mirror_41 : decode m_Cp_mirror.2.1 41 = .ok (.goto (-26), 3) ∧ (((41 : Nat) : Int) + (-26) = ((15 : Nat) : Int)) := ⟨by decide +kernel, by decide⟩
theorem d_Cp_mirror_44 : decode m_Cp_mirror.2.1 44 = .ok (.aload_n 0, 1) ∧ 44 + 1 = 45 := ⟨by decide +kernel, rfl⟩
theorem d_Cp_mirror_45 : decode m_Cp_mirror.2.1 45 = .ok (.getfield 42, 3) ∧ 45 + 3 = 48 := ⟨by decide +kernel, rfl⟩
theorem d_Cp_mirror_48 : decode m_Cp_mirror.2.1 48 = .ok (.aload_n 0, 1) ∧ 48 + 1 = 49 := ⟨by decide +kernel, rfl⟩
theorem d_Cp_mirror_49 : decode m_Cp_mirror.2.1 49 = .ok (.getfield 19, 3) ∧ 49 + 3 = 52 := ⟨by decide +kernel, rfl⟩
theorem d_Cp_mirror_52 : decode m_Cp_mirror.2.1 52 = .ok (.invokevirtual 119, 3) ∧ 52 + 3 = 55 := ⟨by decide +kernel, rfl⟩
theorem d_Cp_mirror_55 : decode m_Cp_mirror.2.1 55 = .ok (.aload_n 0, 1) ∧ 55 + 1 = 56 := ⟨by decide +kernel, rfl⟩
theorem d_Cp_mirror_56 : decode m_Cp_mirror.2.1 56 = .ok (.getfield 42, 3) ∧ 56 + 3 = 59 := ⟨by decide +kernel, rfl⟩
theorem d_Cp_mirror_59 : decode m_Cp_mirror.2.1 59 = .ok (.invokevirtual 203, 3) ∧ 59 + 3 = 62 := ⟨by decide +kernel, rfl⟩
theorem d_Cp_mirror_62 : decode m_Cp_mirror.2.1 62 = .ok (.ireturn, 1) := by decide +kernel
theorem d_Cp_sentence_0 : decode m_Cp_sentence.2.1 0 = .ok (.iload_n 1, 1) ∧ 0 + 1 = 1 := ⟨by decide +kernel, rfl⟩
theorem d_Cp_sentence_1 : decode m_Cp_sentence.2.1 1 = .ok (.invokestatic 209, 3) ∧ 1 + 3 = 4 := ⟨by decide +kernel, rfl⟩
theorem d_Cp_sentence_4 : decode m_Cp_sentence.2.1 4 = .ok (.ifCond .eq 25, 3) ∧ 4 + 3 = 7 ∧ (((4 : Nat) : Int) + (25) = ((29 : Nat) : Int)) := ⟨by decide +kernel, rfl, by decide⟩
theorem d_Cp_sentence_7 : decode m_Cp_sentence.2.1 7 = .ok (.iload_n 2, 1) ∧ 7 + 1 = 8 := ⟨by decide +kernel, rfl⟩
theorem d_Cp_sentence_8 : decode m_Cp_sentence.2.1 8 = .ok (.invokestatic 209, 3) ∧ 8 + 3 = 11 := ⟨by decide +kernel, rfl⟩
theorem d_Cp_sentence_11 : decode m_Cp_sentence.2.1 11 = .ok (.ifCond .eq 18, 3) ∧ 11 + 3 = 14 ∧ (((11 : Nat) : Int) + (18) = ((29 : Nat) : Int)) := ⟨by decide +kernel, rfl, by decide⟩
theorem d_Cp_sentence_14 : decode m_Cp_sentence.2.1 14 = .ok (.iload_n 3, 1) ∧ 14 + 1 = 15 := ⟨by decide +kernel, rfl⟩
theorem d_Cp_sentence_15 : decode m_Cp_sentence.2.1 15 = .ok (.invokestatic 209, 3) ∧ 15 + 3 = 18 := ⟨by decide +kernel, rfl⟩
theorem d_Cp_sentence_18 : decode m_Cp_sentence.2.1 18 = .ok (.ifCond .eq 11, 3) ∧ 18 + 3 = 21 ∧ (((18 : Nat) : Int) + (11) = ((29 : Nat) : Int)) := ⟨by decide +kernel, rfl, by decide⟩
theorem d_Cp_sentence_21 : decode m_Cp_sentence.2.1 21 = .ok (.iload 4, 2) ∧ 21 + 2 = 23 := ⟨by decide +kernel, rfl⟩
theorem d_Cp_sentence_23 : decode m_Cp_sentence.2.1 23 = .ok (.invokestatic 212, 3) ∧ 23 + 3 = 26 := ⟨by decide +kernel, rfl⟩
theorem d_Cp_sentence_26 : decode m_Cp_sentence.2.1 26 = .ok (.ifCond .ne 6, 3) ∧ 26 + 3 = 29 ∧ (((26 : Nat) : Int) + (6) = ((32 : Nat) : Int)) := ⟨by decide +kernel, rfl, by decide⟩
theorem d_Cp_sentence_29 : decode m_Cp_sentence.2.1 29 = .ok (.bipush (-102), 2) ∧ 29 + 2 = 31 ∧ (Int8.ofInt (-102)).toInt32 = Int32.ofInt (-102) := ⟨by decide +kernel, rfl, by decide +kernel⟩
theorem d_Cp_sentence_31 : decode m_Cp_sentence.2.1 31 = .ok (.ireturn, 1) := by decide +kernel
theorem d_Cp_sentence_32 : decode m_Cp_sentence.2.1 32 = .ok (.aload_n 0, 1) ∧ 32 + 1 = 33 := ⟨by decide +kernel, rfl⟩
theorem d_Cp_sentence_33 : decode m_Cp_sentence.2.1 33 = .ok (.getfield 19, 3) ∧ 33 + 3 = 36 := ⟨by decide +kernel, rfl⟩
theorem d_Cp_sentence_36 : decode m_Cp_sentence.2.1 36 = .ok (.getfield 106, 3) ∧ 36 + 3 = 39 := ⟨by decide +kernel, rfl⟩
theorem d_Cp_sentence_39 : decode m_Cp_sentence.2.1 39 = .ok (.ifCond .ne 6, 3) ∧ 39 + 3 = 42 ∧ (((39 : Nat) : Int) + (6) = ((45 : Nat) : Int)) := ⟨by decide +kernel, rfl, by decide⟩
theorem d_Cp_sentence_42 : decode m_Cp_sentence.2.1 42 = .ok (.bipush (-103), 2) ∧ 42 + 2 = 44 ∧ (Int8.ofInt (-103)).toInt32 = Int32.ofInt (-103) := ⟨by decide +kernel, rfl, by decide +kernel⟩
theorem d_Cp_sentence_44 : decode m_Cp_sentence.2.1 44 = .ok (.ireturn, 1) := by decide +kernel
theorem d_Cp_sentence_45 : decode m_Cp_sentence.2.1 45 = .ok (.aload_n 0, 1) ∧ 45 + 1 = 46 := ⟨by decide +kernel, rfl⟩
theorem d_Cp_sentence_46 : decode m_Cp_sentence.2.1 46 = .ok (.getfield 52, 3) ∧ 46 + 3 = 49 := ⟨by decide +kernel, rfl⟩
theorem d_Cp_sentence_49 : decode m_Cp_sentence.2.1 49 = .ok (.iload_n 3, 1) ∧ 49 + 1 = 50 := ⟨by decide +kernel, rfl⟩
theorem d_Cp_sentence_50 : decode m_Cp_sentence.2.1 50 = .ok (.iload 4, 2) ∧ 50 + 2 = 52 := ⟨by decide +kernel, rfl⟩
theorem d_Cp_sentence_52 : decode m_Cp_sentence.2.1 52 = .ok (.invokevirtual 215, 3) ∧ 52 + 3 = 55 := ⟨by decide +kernel, rfl⟩
theorem d_Cp_sentence_55 : decode m_Cp_sentence.2.1 55 = .ok (.aload_n 0, 1) ∧ 55 + 1 = 56 := ⟨by decide +kernel, rfl⟩
theorem d_Cp_sentence_56 : decode m_Cp_sentence.2.1 56 = .ok (.iload_n 1, 1) ∧ 56 + 1 = 57 := ⟨by decide +kernel, rfl⟩
theorem d_Cp_sentence_57 : decode m_Cp_sentence.2.1 57 = .ok (.iload_n 2, 1) ∧ 57 + 1 = 58 := ⟨by decide +kernel, rfl⟩
theorem d_Cp_sentence_58 : decode m_Cp_sentence.2.1 58 = .ok (.invokevirtual 219, 3) ∧ 58 + 3 = 61 := ⟨by decide +kernel, rfl⟩
theorem d_Cp_sentence_61 : decode m_Cp_sentence.2.1 61 = .ok (.ifCond .eq 7, 3) ∧ 61 + 3 = 64 ∧ (((61 : Nat) : Int) + (7) = ((68 : Nat) : Int)) := ⟨by decide +kernel, rfl, by decide⟩
theorem d_Cp_sentence_64 : decode m_Cp_sentence.2.1 64 = .ok (.iconst 1, 1) ∧ 64 + 1 = 65 := ⟨by decide +kernel, rfl⟩
theorem d_Cp_sentence_65 : decode m_Cp_sentence.2.1 65 = .ok (.goto 4, 3) ∧ (((65 : Nat) : Int) + (4) = ((69 : Nat) : Int)) := ⟨by decide +kernel, by decide⟩
theorem d_Cp_sentence_68 : decode m_Cp_sentence.2.1 68 = .ok (.iconst 0, 1) ∧ 68 + 1 = 69 := ⟨by decide +kernel, rfl⟩
theorem d_Cp_sentence_69 : decode m_Cp_sentence.2.1 69 = .ok (.istore 5, 2) ∧ 69 + 2 = 71 := ⟨by decide +kernel, rfl⟩
theorem d_Cp_sentence_71 : decode m_Cp_sentence.2.1 71 = .ok (.aload_n 0, 1) ∧ 71 + 1 = 72 := ⟨by decide +kernel, rfl⟩
theorem d_Cp_sentence_72 : decode m_Cp_sentence.2.1 72 = .ok (.getfield 73, 3) ∧ 72 + 3 = 75 := ⟨by decide +kernel, rfl⟩
theorem d_Cp_sentence_75 : decode m_Cp_sentence.2.1 75 = .ok (.iload 5, 2) ∧ 75 + 2 = 77 := ⟨by decide +kernel, rfl⟩
theorem d_Cp_sentence_77 : decode m_Cp_sentence.2.1 77 = .ok (.invokevirtual 222, 3) ∧ 77 + 3 = 80 := ⟨by decide +kernel, rfl⟩
theorem d_Cp_sentence_80 : decode m_Cp_sentence.2.1 80 = .ok (.aload_n 0, 1) ∧ 80 + 1 = 81 := ⟨by decide +kernel, rfl⟩
theorem d_Cp_sentence_81 : decode m_Cp_sentence.2.1 81 = .ok (.dup, 1) ∧ 81 + 1 = 82 := ⟨by decide +kernel, rfl⟩
theorem d_Cp_sentence_82 : decode m_Cp_sentence.2.1 82 = .ok (.getfield 85, 3) ∧ 82 + 3 = 85 := ⟨by decide +kernel, rfl⟩
theorem d_Cp_sentence_85 : decode m_Cp_sentence.2.1 85 = .ok (.iconst 1, 1) ∧ 85 + 1 = 86 := ⟨by decide +kernel, rfl⟩
theorem d_Cp_sentence_86 : decode m_Cp_sentence.2.1 86 = .ok (.iadd, 1) ∧ 86 + 1 = 87 := ⟨by decide +kernel, rfl⟩
theorem d_Cp_sentence_87 : decode m_Cp_sentence.2.1 87 = .ok (.putfield 85, 3) ∧ 87 + 3 = 90 := ⟨by decide +kernel, rfl⟩
theorem d_Cp_sentence_90 : decode m_Cp_sentence.2.1 90 = .ok (.iload 5, 2) ∧ 90 + 2 = 92 := ⟨by decide +kernel, rfl⟩
theorem d_Cp_sentence_92 : decode m_Cp_sentence.2.1 92 = .ok (.ireturn, 1) := by decide +kernel
theorem d_Cp_pieces_0 : decode m_Cp_pieces.2.1 0 = .ok (.iload_n 1, 1) ∧ 0 + 1 = 1 := ⟨by decide +kernel, rfl⟩
theorem d_Cp_pieces_1 : decode m_Cp_pieces.2.1 1 = .ok (.invokestatic 209, 3) ∧ 1 + 3 = 4 := ⟨by decide +kernel, rfl⟩
theorem d_Cp_pieces_4 : decode m_Cp_pieces.2.1 4 = .ok (.ifCond .eq 10, 3) ∧ 4 + 3 = 7 ∧ (((4 : Nat) : Int) + (10) = ((14 : Nat) : Int)) := ⟨by decide +kernel, rfl, by decide⟩
theorem d_Cp_pieces_7 : decode m_Cp_pieces.2.1 7 = .ok (.iload_n 2, 1) ∧ 7 + 1 = 8 := ⟨by decide +kernel, rfl⟩
theorem d_Cp_pieces_8 : decode m_Cp_pieces.2.1 8 = .ok (.invokestatic 212, 3) ∧ 8 + 3 = 11 := ⟨by decide +kernel, rfl⟩
theorem d_Cp_pieces_11 : decode m_Cp_pieces.2.1 11 = .ok (.ifCond .ne 6, 3) ∧ 11 + 3 = 14 ∧ (((11 : Nat) : Int) + (6) = ((17 : Nat) : Int)) := ⟨by decide +kernel, rfl, by decide⟩
theorem d_Cp_pieces_14 : decode m_Cp_pieces.2.1 14 = .ok (.bipush (-102), 2) ∧ 14 + 2 = 16 ∧ (Int8.ofInt (-102)).toInt32 = Int32.ofInt (-102) := ⟨by decide +kernel, rfl, by decide +kernel⟩
theorem d_Cp_pieces_16 : decode m_Cp_pieces.2.1 16 = .ok (.ireturn, 1) := by decide +kernel
theorem d_Cp_pieces_17 : decode m_Cp_pieces.2.1 17 = .ok (.aload_n 0, 1) ∧ 17 + 1 = 18 := ⟨by decide +kernel, rfl⟩
theorem d_Cp_pieces_18 : decode m_Cp_pieces.2.1 18 = .ok (.getfield 19, 3) ∧ 18 + 3 = 21 := ⟨by decide +kernel, rfl⟩
theorem d_Cp_pieces_21 : decode m_Cp_pieces.2.1 21 = .ok (.getfield 106, 3) ∧ 21 + 3 = 24 := ⟨by decide +kernel, rfl⟩
theorem d_Cp_pieces_24 : decode m_Cp_pieces.2.1 24 = .ok (.ifCond .ne 6, 3) ∧ 24 + 3 = 27 ∧ (((24 : Nat) : Int) + (6) = ((30 : Nat) : Int)) := ⟨by decide +kernel, rfl, by decide⟩
theorem d_Cp_pieces_27 : decode m_Cp_pieces.2.1 27 = .ok (.bipush (-103), 2) ∧ 27 + 2 = 29 ∧ (Int8.ofInt (-103)).toInt32 = Int32.ofInt (-103) := ⟨by decide +kernel, rfl, by decide +kernel⟩
theorem d_Cp_pieces_29 : decode m_Cp_pieces.2.1 29 = .ok (.ireturn, 1) := by decide +kernel
theorem d_Cp_pieces_30 : decode m_Cp_pieces.2.1 30 = .ok (.aload_n 0, 1) ∧ 30 + 1 = 31 := ⟨by decide +kernel, rfl⟩
theorem d_Cp_pieces_31 : decode m_Cp_pieces.2.1 31 = .ok (.getfield 52, 3) ∧ 31 + 3 = 34 := ⟨by decide +kernel, rfl⟩
theorem d_Cp_pieces_34 : decode m_Cp_pieces.2.1 34 = .ok (.iload_n 1, 1) ∧ 34 + 1 = 35 := ⟨by decide +kernel, rfl⟩
theorem d_Cp_pieces_35 : decode m_Cp_pieces.2.1 35 = .ok (.iload_n 2, 1) ∧ 35 + 1 = 36 := ⟨by decide +kernel, rfl⟩
theorem d_Cp_pieces_36 : decode m_Cp_pieces.2.1 36 = .ok (.invokevirtual 215, 3) ∧ 36 + 3 = 39 := ⟨by decide +kernel, rfl⟩
theorem d_Cp_pieces_39 : decode m_Cp_pieces.2.1 39 = .ok (.aload_n 0, 1) ∧ 39 + 1 = 40 := ⟨by decide +kernel, rfl⟩
theorem d_Cp_pieces_40 : decode m_Cp_pieces.2.1 40 = .ok (.getfield 59, 3) ∧ 40 + 3 = 43 := ⟨by decide +kernel, rfl⟩
theorem d_Cp_pieces_43 : decode m_Cp_pieces.2.1 43 = .ok (.aload_n 0, 1) ∧ 43 + 1 = 44 := ⟨by decide +kernel, rfl⟩
theorem d_Cp_pieces_44 : decode m_Cp_pieces.2.1 44 = .ok (.getfield 42, 3) ∧ 44 + 3 = 47 := ⟨by decide +kernel, rfl⟩
theorem d_Cp_pieces_47 : decode m_Cp_pieces.2.1 47 = .ok (.aload_n 0, 1) ∧ 47 + 1 = 48 := ⟨by decide +kernel, rfl⟩
theorem d_Cp_pieces_48 : decode m_Cp_pieces.2.1 48 = .ok (.getfield 52, 3) ∧ 48 + 3 = 51 := ⟨by decide +kernel, rfl⟩
theorem d_Cp_pieces_51 : decode m_Cp_pieces.2.1 51 = .ok (.invokevirtual 224, 3) ∧ 51 + 3 = 54 := ⟨by decide +kernel, rfl⟩
theorem d_Cp_pieces_54 : decode m_Cp_pieces.2.1 54 = .ok (.ireturn, 1) := by decide +kernel
theorem d_Cp_loose_0 : decode m_Cp_loose.2.1 0 = .ok (.aload_n 0, 1) ∧ 0 + 1 = 1 := ⟨by decide +kernel, rfl⟩
theorem d_Cp_loose_1 : decode m_Cp_loose.2.1 1 = .ok (.getfield 19, 3) ∧ 1 + 3 = 4 := ⟨by decide +kernel, rfl⟩
theorem d_Cp_loose_4 : decode m_Cp_loose.2.1 4 = .ok (.getfield 106, 3) ∧ 4 + 3 = 7 := ⟨by decide +kernel, rfl⟩
theorem d_Cp_loose_7 : decode m_Cp_loose.2.1 7 = .ok (.ifCond .ne 6, 3) ∧ 7 + 3 = 10 ∧ (((7 : Nat) : Int) + (6) = ((13 : Nat) : Int)) := ⟨by decide +kernel, rfl, by decide⟩
theorem d_Cp_loose_10 : decode m_Cp_loose.2.1 10 = .ok (.bipush (-103), 2) ∧ 10 + 2 = 12 ∧ (Int8.ofInt (-103)).toInt32 = Int32.ofInt (-103) := ⟨by decide +kernel, rfl, by decide +kernel⟩
theorem d_Cp_loose_12 : decode m_Cp_loose.2.1 12 = .ok (.ireturn, 1) := by decide +kernel
theorem d_Cp_loose_13 : decode m_Cp_loose.2.1 13 = .ok (.aload_n 0, 1) ∧ 13 + 1 = 14 := ⟨by decide +kernel, rfl⟩
theorem d_Cp_loose_14 : decode m_Cp_loose.2.1 14 = .ok (.getfield 19, 3) ∧ 14 + 3 = 17 := ⟨by decide +kernel, rfl⟩
theorem d_Cp_loose_17 : decode m_Cp_loose.2.1 17 = .ok (.getfield 106, 3) ∧ 17 + 3 = 20 := ⟨by decide +kernel, rfl⟩
theorem d_Cp_loose_20 : decode m_Cp_loose.2.1 20 = .ok (.iconst 1, 1) ∧ 20 + 1 = 21 := ⟨by decide +kernel, rfl⟩
theorem d_Cp_loose_21 : decode m_Cp_loose.2.1 21 = .ok (.if_icmp .ne 5, 3) ∧ 21 + 3 = 24 ∧ (((21 : Nat) : Int) + (5) = ((26 : Nat) : Int)) := ⟨by decide +kernel, rfl, by decide⟩
theorem d_Cp_loose_24 : decode m_Cp_loose.2.1 24 = .ok (.iconst (-1), 1) ∧ 24 + 1 = 25 := ⟨by decide +kernel, rfl⟩
theorem d_Cp_loose_25 : decode m_Cp_loose.2.1 25 = .ok (.ireturn, 1) := by decide +kernel
theorem d_Cp_loose_26 : decode m_Cp_loose.2.1 26 = .ok (.iconst (-1), 1) ∧ 26 + 1 = 27 := ⟨by decide +kernel, rfl⟩
theorem d_Cp_loose_27 : decode m_Cp_loose.2.1 27 = .ok (.istore_n 1, 1) ∧ 27 + 1 = 28 := ⟨by decide +kernel, rfl⟩
theorem d_Cp_loose_28 : decode m_Cp_loose.2.1 28 = .ok (.sipush 226, 3) ∧ 28 + 3 = 31 ∧ (Int16.ofInt 226).toInt32 = Int32.ofInt 226 := ⟨by decide +kernel, rfl, by decide +kernel⟩
theorem d_Cp_loose_31 : decode m_Cp_loose.2.1 31 = .ok (.istore_n 2, 1) ∧ 31 + 1 = 32 := ⟨by decide +kernel, rfl⟩
theorem d_Cp_loose_32 : decode m_Cp_loose.2.1 32 = .ok (.iconst 0, 1) ∧ 32 + 1 = 33 := ⟨by decide +kernel, rfl⟩
theorem d_Cp_loose_33 : decode m_Cp_loose.2.1 33 = .ok (.istore_n 3, 1) ∧ 33 + 1 = 34 := ⟨by decide +kernel, rfl⟩
theorem d_Cp_loose_34 : decode m_Cp_loose.2.1 34 = .ok (.iload_n 3, 1) ∧ 34 + 1 = 35 := ⟨by decide +kernel, rfl⟩
theorem d_Cp_loose_35 : decode m_Cp_loose.2.1 35 = .ok (.aload_n 0, 1) ∧ 35 + 1 = 36 := ⟨by decide +kernel, rfl⟩
theorem d_Cp_loose_36 : decode m_Cp_loose.2.1 36 = .ok (.getfield 19, 3) ∧ 36 + 3 = 39 := ⟨by decide +kernel, rfl⟩
theorem d_Cp_loose_39 : decode m_Cp_loose.2.1 39 = .ok (.getfield 106, 3) ∧ 39 + 3 = 42 := ⟨by decide +kernel, rfl⟩
theorem d_Cp_loose_42 : decode m_Cp_loose.2.1 42 = .ok (.if_icmp .ge 60, 3) ∧ 42 + 3 = 45 ∧ (((42 : Nat) : Int) + (60) = ((102 : Nat) : Int)) := ⟨by decide +kernel, rfl, by decide⟩
theorem d_Cp_loose_45 : decode m_Cp_loose.2.1 45 = .ok (.aload_n 0, 1) ∧ 45 + 1 = 46 := ⟨by decide +kernel, rfl⟩
theorem d_Cp_loose_46 : decode m_Cp_loose.2.1 46 = .ok (.getfield 26, 3) ∧ 46 + 3 = 49 := ⟨by decide +kernel, rfl⟩
theorem d_Cp_loose_49 : decode m_Cp_loose.2.1 49 = .ok (.aload_n 0, 1) ∧ 49 + 1 = 50 := ⟨by decide +kernel, rfl⟩
theorem d_Cp_loose_50 : decode m_Cp_loose.2.1 50 = .ok (.getfield 19, 3) ∧ 50 + 3 = 53 := ⟨by decide +kernel, rfl⟩
theorem d_Cp_loose_53 : decode m_Cp_loose.2.1 53 = .ok (.invokevirtual 228, 3) ∧ 53 + 3 = 56 := ⟨by decide +kernel, rfl⟩
theorem d_Cp_loose_56 : decode m_Cp_loose.2.1 56 = .ok (.aload_n 0, 1) ∧ 56 + 1 = 57 := ⟨by decide +kernel, rfl⟩
theorem d_Cp_loose_57 : decode m_Cp_loose.2.1 57 = .ok (.getfield 26, 3) ∧ 57 + 3 = 60 := ⟨by decide +kernel, rfl⟩
theorem d_Cp_loose_60 : decode m_Cp_loose.2.1 60 = .ok (.iload_n 3, 1) ∧ 60 + 1 = 61 := ⟨by decide +kernel, rfl⟩
theorem d_Cp_loose_61 : decode m_Cp_loose.2.1 61 = .ok (.invokevirtual 199, 3) ∧ 61 + 3 = 64 := ⟨by decide +kernel, rfl⟩
theorem d_Cp_loose_64 : decode m_Cp_loose.2.1 64 = .ok (.aload_n 0, 1) ∧ 64 + 1 = 65 := ⟨by decide +kernel, rfl⟩
theorem d_Cp_loose_65 : decode m_Cp_loose.2.1 65 = .ok (.getfield 46, 3) ∧ 65 + 3 = 68 := ⟨by decide +kernel, rfl⟩
theorem d_Cp_loose_68 : decode m_Cp_loose.2.1 68 = .ok (.aload_n 0, 1) ∧ 68 + 1 = 69 := ⟨by decide +kernel, rfl⟩
theorem d_Cp_loose_69 : decode m_Cp_loose.2.1 69 = .ok (.getfield 26, 3) ∧ 69 + 3 = 72 := ⟨by decide +kernel, rfl⟩
theorem d_Cp_loose_72 : decode m_Cp_loose.2.1 72 = .ok (.invokevirtual 119, 3) ∧ 72 + 3 = 75 := ⟨by decide +kernel, rfl⟩
theorem d_Cp_loose_75 : decode m_Cp_loose.2.1 75 = .ok (.aload_n 0, 1) ∧ 75 + 1 = 76 := ⟨by decide +kernel, rfl⟩
theorem d_Cp_loose_76 : decode m_Cp_loose.2.1 76 = .ok (.getfield 46, 3) ∧ 76 + 3 = 79 := ⟨by decide +kernel, rfl⟩
theorem d_Cp_loose_79 : decode m_Cp_loose.2.1 79 = .ok (.invokevirtual 203, 3) ∧ 79 + 3 = 82 := ⟨by decide +kernel, rfl⟩
theorem d_Cp_loose_82 : decode m_Cp_loose.2.1 82 = .ok (.iload_n 2, 1) ∧ 82 + 1 = 83 := ⟨by decide +kernel, rfl⟩
theorem d_Cp_loose_83 : decode m_Cp_loose.2.1 83 = .ok (.if_icmp .ge 13, 3) ∧ 83 + 3 = 86 ∧ (((83 : Nat) : Int) + (13) = ((96 : Nat) : Int)) := ⟨by decide +kernel, rfl, by decide⟩
theorem d_Cp_loose_86 : decode m_Cp_loose.2.1 86 = .ok (.aload_n 0, 1) ∧ 86 + 1 = 87 := ⟨by decide +kernel, rfl⟩
theorem d_Cp_loose_87 : decode m_Cp_loose.2.1 87 = .ok (.getfield 46, 3) ∧ 87 + 3 = 90 := ⟨by decide +kernel, rfl⟩
theorem d_Cp_loose_90 : decode m_Cp_loose.2.1 90 = .ok (.invokevirtual 203, 3) ∧ 90 + 3 = 93 := ⟨by decide +kernel, rfl⟩
theorem d_Cp_loose_93 : decode m_Cp_loose.2.1 93 = .ok (.istore_n 2, 1) ∧ 93 + 1 = 94 := ⟨by decide +kernel, rfl⟩
theorem d_Cp_loose_94 : decode m_Cp_loose.2.1 94 = .ok (.iload_n 3, 1) ∧ 94 + 1 = 95 := ⟨by decide +kernel, rfl⟩
theorem d_Cp_loose_95 : decode m_Cp_loose.2.1 95 = .ok (.istore_n 1, 1) ∧ 95 + 1 = 96 := ⟨by decide +kernel, rfl⟩
theorem d_Cp_loose_96 : decode m_Cp_loose.2.1 96 = .ok (.iinc 3 1, 3) ∧ 96 + 3 = 99 := ⟨by decide +kernel, rfl⟩
theorem d_Cp_loose_99 : decode m_Cp_loose.2.1 99 = .ok (.goto (-65), 3) ∧ (((99 : Nat) : Int) + (-65) = ((34 : Nat) : Int)) := ⟨by decide +kernel, by decide⟩
theorem d_Cp_loose_102 : decode m_Cp_loose.2.1 102 = .ok (.iload_n 1, 1) ∧ 102 + 1 = 103 := ⟨by decide +kernel, rfl⟩
theorem d_Cp_loose_103 : decode m_Cp_loose.2.1 103 = .ok (.ireturn, 1) := by decide +kernel
theorem d_Cp_see_0 : decode m_Cp_see.2.1 0 = .ok (.aload_n 0, 1) ∧ 0 + 1 = 1 := ⟨by decide +kernel, rfl⟩
theorem d_Cp_see_1 : decode m_Cp_see.2.1 1 = .ok (.getfield 19, 3) ∧ 1 + 3 = 4 := ⟨by decide +kernel, rfl⟩
theorem d_Cp_see_4 : decode m_Cp_see.2.1 4 = .ok (.iload_n 1, 1) ∧ 4 + 1 = 5 := ⟨by decide +kernel, rfl⟩
theorem d_Cp_see_5 : decode m_Cp_see.2.1 5 = .ok (.invokevirtual 123, 3) ∧ 5 + 3 = 8 := ⟨by decide +kernel, rfl⟩
theorem d_Cp_see_8 : decode m_Cp_see.2.1 8 = .ok (.ifCond .ne 6, 3) ∧ 8 + 3 = 11 ∧ (((8 : Nat) : Int) + (6) = ((14 : Nat) : Int)) := ⟨by decide +kernel, rfl, by decide⟩
theorem d_Cp_see_11 : decode m_Cp_see.2.1 11 = .ok (.bipush (-101), 2) ∧ 11 + 2 = 13 ∧ (Int8.ofInt (-101)).toInt32 = Int32.ofInt (-101) := ⟨by decide +kernel, rfl, by decide +kernel⟩
theorem d_Cp_see_13 : decode m_Cp_see.2.1 13 = .ok (.ireturn, 1) := by decide +kernel
theorem d_Cp_see_14 : decode m_Cp_see.2.1 14 = .ok (.iload_n 2, 1) ∧ 14 + 1 = 15 := ⟨by decide +kernel, rfl⟩
theorem d_Cp_see_15 : decode m_Cp_see.2.1 15 = .ok (.invokestatic 196, 3) ∧ 15 + 3 = 18 := ⟨by decide +kernel, rfl⟩
theorem d_Cp_see_18 : decode m_Cp_see.2.1 18 = .ok (.ifCond .eq 21, 3) ∧ 18 + 3 = 21 ∧ (((18 : Nat) : Int) + (21) = ((39 : Nat) : Int)) := ⟨by decide +kernel, rfl, by decide⟩
theorem d_Cp_see_21 : decode m_Cp_see.2.1 21 = .ok (.iload_n 3, 1) ∧ 21 + 1 = 22 := ⟨by decide +kernel, rfl⟩
theorem d_Cp_see_22 : decode m_Cp_see.2.1 22 = .ok (.invokestatic 196, 3) ∧ 22 + 3 = 25 := ⟨by decide +kernel, rfl⟩
theorem d_Cp_see_25 : decode m_Cp_see.2.1 25 = .ok (.ifCond .eq 14, 3) ∧ 25 + 3 = 28 ∧ (((25 : Nat) : Int) + (14) = ((39 : Nat) : Int)) := ⟨by decide +kernel, rfl, by decide⟩
theorem d_Cp_see_28 : decode m_Cp_see.2.1 28 = .ok (.iload 4, 2) ∧ 28 + 2 = 30 := ⟨by decide +kernel, rfl⟩
theorem d_Cp_see_30 : decode m_Cp_see.2.1 30 = .ok (.ifCond .lt 9, 3) ∧ 30 + 3 = 33 ∧ (((30 : Nat) : Int) + (9) = ((39 : Nat) : Int)) := ⟨by decide +kernel, rfl, by decide⟩
theorem d_Cp_see_33 : decode m_Cp_see.2.1 33 = .ok (.iload 4, 2) ∧ 33 + 2 = 35 := ⟨by decide +kernel, rfl⟩
theorem d_Cp_see_35 : decode m_Cp_see.2.1 35 = .ok (.iconst 2, 1) ∧ 35 + 1 = 36 := ⟨by decide +kernel, rfl⟩
theorem d_Cp_see_36 : decode m_Cp_see.2.1 36 = .ok (.if_icmp .le 6, 3) ∧ 36 + 3 = 39 ∧ (((36 : Nat) : Int) + (6) = ((42 : Nat) : Int)) := ⟨by decide +kernel, rfl, by decide⟩
theorem d_Cp_see_39 : decode m_Cp_see.2.1 39 = .ok (.bipush (-102), 2) ∧ 39 + 2 = 41 ∧ (Int8.ofInt (-102)).toInt32 = Int32.ofInt (-102) := ⟨by decide +kernel, rfl, by decide +kernel⟩
theorem d_Cp_see_41 : decode m_Cp_see.2.1 41 = .ok (.ireturn, 1) := by decide +kernel
theorem d_Cp_see_42 : decode m_Cp_see.2.1 42 = .ok (.aload_n 0, 1) ∧ 42 + 1 = 43 := ⟨by decide +kernel, rfl⟩
theorem d_Cp_see_43 : decode m_Cp_see.2.1 43 = .ok (.getfield 32, 3) ∧ 43 + 3 = 46 := ⟨by decide +kernel, rfl⟩
theorem d_Cp_see_46 : decode m_Cp_see.2.1 46 = .ok (.iload_n 1, 1) ∧ 46 + 1 = 47 := ⟨by decide +kernel, rfl⟩
theorem d_Cp_see_47 : decode m_Cp_see.2.1 47 = .ok (.iload_n 2, 1) ∧ 47 + 1 = 48 := ⟨by decide +kernel, rfl⟩
theorem d_Cp_see_48 : decode m_Cp_see.2.1 48 = .ok (.iload_n 3, 1) ∧ 48 + 1 = 49 := ⟨by decide +kernel, rfl⟩
theorem d_Cp_see_49 : decode m_Cp_see.2.1 49 = .ok (.iload 4, 2) ∧ 49 + 2 = 51 := ⟨by decide +kernel, rfl⟩
theorem d_Cp_see_51 : decode m_Cp_see.2.1 51 = .ok (.invokevirtual 231, 3) ∧ 51 + 3 = 54 := ⟨by decide +kernel, rfl⟩
theorem d_Cp_see_54 : decode m_Cp_see.2.1 54 = .ok (.ifCond .eq 13, 3) ∧ 54 + 3 = 57 ∧ (((54 : Nat) : Int) + (13) = ((67 : Nat) : Int)) := ⟨by decide +kernel, rfl, by decide⟩
theorem d_Cp_see_57 : decode m_Cp_see.2.1 57 = .ok (.aload_n 0, 1) ∧ 57 + 1 = 58 := ⟨by decide +kernel, rfl⟩
theorem d_Cp_see_58 : decode m_Cp_see.2.1 58 = .ok (.getfield 32, 3) ∧ 58 + 3 = 61 := ⟨by decide +kernel, rfl⟩
theorem d_Cp_see_61 : decode m_Cp_see.2.1 61 = .ok (.getfield 118, 3) ∧ 61 + 3 = 64 := ⟨by decide +kernel, rfl⟩
theorem d_Cp_see_64 : decode m_Cp_see.2.1 64 = .ok (.goto 5, 3) ∧ (((64 : Nat) : Int) + (5) = ((69 : Nat) : Int)) := ⟨by decide +kernel, by decide⟩
theorem d_Cp_see_67 : decode m_Cp_see.2.1 67 = .ok (.bipush (-104), 2) ∧ 67 + 2 = 69 ∧ (Int8.ofInt (-104)).toInt32 = Int32.ofInt (-104) := ⟨by decide +kernel, rfl, by decide +kernel⟩
theorem d_Cp_see_69 : decode m_Cp_see.2.1 69 = .ok (.ireturn, 1) := by decide +kernel
theorem d_Cp_forget_0 : decode m_Cp_forget.2.1 0 = .ok (.aload_n 0, 1) ∧ 0 + 1 = 1 := ⟨by decide +kernel, rfl⟩
theorem d_Cp_forget_1 : decode m_Cp_forget.2.1 1 = .ok (.getfield 32, 3) ∧ 1 + 3 = 4 := ⟨by decide +kernel, rfl⟩
theorem d_Cp_forget_4 : decode m_Cp_forget.2.1 4 = .ok (.getfield 118, 3) ∧ 4 + 3 = 7 := ⟨by decide +kernel, rfl⟩
theorem d_Cp_forget_7 : decode m_Cp_forget.2.1 7 = .ok (.istore_n 1, 1) ∧ 7 + 1 = 8 := ⟨by decide +kernel, rfl⟩
theorem d_Cp_forget_8 : decode m_Cp_forget.2.1 8 = .ok (.aload_n 0, 1) ∧ 8 + 1 = 9 := ⟨by decide +kernel, rfl⟩
theorem d_Cp_forget_9 : decode m_Cp_forget.2.1 9 = .ok (.getfield 32, 3) ∧ 9 + 3 = 12 := ⟨by decide +kernel, rfl⟩
theorem d_Cp_forget_12 : decode m_Cp_forget.2.1 12 = .ok (.iconst 0, 1) ∧ 12 + 1 = 13 := ⟨by decide +kernel, rfl⟩
theorem d_Cp_forget_13 : decode m_Cp_forget.2.1 13 = .ok (.putfield 118, 3) ∧ 13 + 3 = 16 := ⟨by decide +kernel, rfl⟩
theorem d_Cp_forget_16 : decode m_Cp_forget.2.1 16 = .ok (.iload_n 1, 1) ∧ 16 + 1 = 17 := ⟨by decide +kernel, rfl⟩
theorem d_Cp_forget_17 : decode m_Cp_forget.2.1 17 = .ok (.ireturn, 1) := by decide +kernel
theorem d_Cp_dice_0 : decode m_Cp_dice.2.1 0 = .ok (.iload_n 1, 1) ∧ 0 + 1 = 1 := ⟨by decide +kernel, rfl⟩
theorem d_Cp_dice_1 : decode m_Cp_dice.2.1 1 = .ok (.iconst 1, 1) ∧ 1 + 1 = 2 := ⟨by decide +kernel, rfl⟩
theorem d_Cp_dice_2 : decode m_Cp_dice.2.1 2 = .ok (.if_icmp .lt 10, 3) ∧ 2 + 3 = 5 ∧ (((2 : Nat) : Int) + (10) = ((12 : Nat) : Int)) := ⟨by decide +kernel, rfl, by decide⟩
theorem d_Cp_dice_5 : decode m_Cp_dice.2.1 5 = .ok (.iload_n 1, 1) ∧ 5 + 1 = 6 := ⟨by decide +kernel, rfl⟩
theorem d_Cp_dice_6 : decode m_Cp_dice.2.1 6 = .ok (.sipush 1000, 3) ∧ 6 + 3 = 9 ∧ (Int16.ofInt 1000).toInt32 = Int32.ofInt 1000 := ⟨by decide +kernel, rfl, by decide +kernel⟩
theorem d_Cp_dice_9 : decode m_Cp_dice.2.1 9 = .ok (.if_icmp .le 6, 3) ∧ 9 + 3 = 12 ∧ (((9 : Nat) : Int) + (6) = ((15 : Nat) : Int)) := ⟨by decide +kernel, rfl, by decide⟩
theorem d_Cp_dice_12 : decode m_Cp_dice.2.1 12 = .ok (.bipush (-102), 2) ∧ 12 + 2 = 14 ∧ (Int8.ofInt (-102)).toInt32 = Int32.ofInt (-102) := ⟨by decide +kernel, rfl, by decide +kernel⟩
theorem d_Cp_dice_14 : decode m_Cp_dice.2.1 14 = .ok (.ireturn, 1) := by decide +kernel
theorem d_Cp_dice_15 : decode m_Cp_dice.2.1 15 = .ok (.aload_n 0, 1) ∧ 15 + 1 = 16 := ⟨by decide +kernel, rfl⟩
theorem d_Cp_dice_16 : decode m_Cp_dice.2.1 16 = .ok (.getfield 66, 3) ∧ 16 + 3 = 19 := ⟨by decide +kernel, rfl⟩
theorem d_Cp_dice_19 : decode m_Cp_dice.2.1 19 = .ok (.iload_n 1, 1) ∧ 19 + 1 = 20 := ⟨by decide +kernel, rfl⟩
theorem d_Cp_dice_20 : decode m_Cp_dice.2.1 20 = .ok (.invokevirtual 234, 3) ∧ 20 + 3 = 23 := ⟨by decide +kernel, rfl⟩
theorem d_Cp_dice_23 : decode m_Cp_dice.2.1 23 = .ok (.ireturn, 1) := by decide +kernel
theorem d_Cp_latest_0 : decode m_Cp_latest.2.1 0 = .ok (.iload_n 1, 1) ∧ 0 + 1 = 1 := ⟨by decide +kernel, rfl⟩
theorem d_Cp_latest_1 : decode m_Cp_latest.2.1 1 = .ok (.ifCond .lt 14, 3) ∧ 1 + 3 = 4 ∧ (((1 : Nat) : Int) + (14) = ((15 : Nat) : Int)) := ⟨by decide +kernel, rfl, by decide⟩
theorem d_Cp_latest_4 : decode m_Cp_latest.2.1 4 = .ok (.iload_n 1, 1) ∧ 4 + 1 = 5 := ⟨by decide +kernel, rfl⟩
theorem d_Cp_latest_5 : decode m_Cp_latest.2.1 5 = .ok (.aload_n 0, 1) ∧ 5 + 1 = 6 := ⟨by decide +kernel, rfl⟩
theorem d_Cp_latest_6 : decode m_Cp_latest.2.1 6 = .ok (.getfield 73, 3) ∧ 6 + 3 = 9 := ⟨by decide +kernel, rfl⟩
theorem d_Cp_latest_9 : decode m_Cp_latest.2.1 9 = .ok (.getfield 237, 3) ∧ 9 + 3 = 12 := ⟨by decide +kernel, rfl⟩
theorem d_Cp_latest_12 : decode m_Cp_latest.2.1 12 = .ok (.if_icmp .lt 8, 3) ∧ 12 + 3 = 15 ∧ (((12 : Nat) : Int) + (8) = ((20 : Nat) : Int)) := ⟨by decide +kernel, rfl, by decide⟩
theorem d_Cp_latest_15 : decode m_Cp_latest.2.1 15 = .ok (.bipush (-101), 2) ∧ 15 + 2 = 17 ∧ (Int8.ofInt (-101)).toInt32 = Int32.ofInt (-101) := ⟨by decide +kernel, rfl, by decide +kernel⟩
theorem d_Cp_latest_17 : decode m_Cp_latest.2.1 17 = .ok (.goto 11, 3) ∧ (((17 : Nat) : Int) + (11) = ((28 : Nat) : Int)) := ⟨by decide +kernel, by decide⟩
theorem d_Cp_latest_20 : decode m_Cp_latest.2.1 20 = .ok (.aload_n 0, 1) ∧ 20 + 1 = 21 := ⟨by decide +kernel, rfl⟩
theorem d_Cp_latest_21 : decode m_Cp_latest.2.1 21 = .ok (.getfield 73, 3) ∧ 21 + 3 = 24 := ⟨by decide +kernel, rfl⟩
theorem d_Cp_latest_24 : decode m_Cp_latest.2.1 24 = .ok (.iload_n 1, 1) ∧ 24 + 1 = 25 := ⟨by decide +kernel, rfl⟩
theorem d_Cp_latest_25 : decode m_Cp_latest.2.1 25 = .ok (.invokevirtual 238, 3) ∧ 25 + 3 = 28 := ⟨by decide +kernel, rfl⟩
theorem d_Cp_latest_28 : decode m_Cp_latest.2.1 28 = .ok (.ireturn, 1) := by decide +kernel
theorem d_Cp_image_0 : decode m_Cp_image.2.1 0 = .ok (.aload_n 0, 1) ∧ 0 + 1 = 1 := ⟨by decide +kernel, rfl⟩
theorem d_Cp_image_1 : decode m_Cp_image.2.1 1 = .ok (.getfield 19, 3) ∧ 1 + 3 = 4 := ⟨by decide +kernel, rfl⟩
theorem d_Cp_image_4 : decode m_Cp_image.2.1 4 = .ok (.getfield 106, 3) ∧ 4 + 3 = 7 := ⟨by decide +kernel, rfl⟩
theorem d_Cp_image_7 : decode m_Cp_image.2.1 7 = .ok (.ifCond .ne 6, 3) ∧ 7 + 3 = 10 ∧ (((7 : Nat) : Int) + (6) = ((13 : Nat) : Int)) := ⟨by decide +kernel, rfl, by decide⟩
theorem d_Cp_image_10 : decode m_Cp_image.2.1 10 = .ok (.bipush (-103), 2) ∧ 10 + 2 = 12 ∧ (Int8.ofInt (-103)).toInt32 = Int32.ofInt (-103) := ⟨by decide +kernel, rfl, by decide +kernel⟩
theorem d_Cp_image_12 : decode m_Cp_image.2.1 12 = .ok (.ireturn, 1) := by decide +kernel
theorem d_Cp_image_13 : decode m_Cp_image.2.1 13 = .ok (.aload_n 0, 1) ∧ 13 + 1 = 14 := ⟨by decide +kernel, rfl⟩
theorem d_Cp_image_14 : decode m_Cp_image.2.1 14 = .ok (.getfield 23, 3) ∧ 14 + 3 = 17 := ⟨by decide +kernel, rfl⟩
theorem d_Cp_image_17 : decode m_Cp_image.2.1 17 = .ok (.aload_n 0, 1) ∧ 17 + 1 = 18 := ⟨by decide +kernel, rfl⟩
theorem d_Cp_image_18 : decode m_Cp_image.2.1 18 = .ok (.getfield 19, 3) ∧ 18 + 3 = 21 := ⟨by decide +kernel, rfl⟩
theorem d_Cp_image_21 : decode m_Cp_image.2.1 21 = .ok (.invokevirtual 228, 3) ∧ 21 + 3 = 24 := ⟨by decide +kernel, rfl⟩
theorem d_Cp_image_24 : decode m_Cp_image.2.1 24 = .ok (.aload_n 0, 1) ∧ 24 + 1 = 25 := ⟨by decide +kernel, rfl⟩
theorem d_Cp_image_25 : decode m_Cp_image.2.1 25 = .ok (.getfield 36, 3) ∧ 25 + 3 = 28 := ⟨by decide +kernel, rfl⟩
theorem d_Cp_image_28 : decode m_Cp_image.2.1 28 = .ok (.aload_n 0, 1) ∧ 28 + 1 = 29 := ⟨by decide +kernel, rfl⟩
theorem d_Cp_image_29 : decode m_Cp_image.2.1 29 = .ok (.getfield 32, 3) ∧ 29 + 3 = 32 := ⟨by decide +kernel, rfl⟩
theorem d_Cp_image_32 : decode m_Cp_image.2.1 32 = .ok (.invokevirtual 241, 3) ∧ 32 + 3 = 35 := ⟨by decide +kernel, rfl⟩
theorem d_Cp_image_35 : decode m_Cp_image.2.1 35 = .ok (.aload_n 0, 1) ∧ 35 + 1 = 36 := ⟨by decide +kernel, rfl⟩
theorem d_Cp_image_36 : decode m_Cp_image.2.1 36 = .ok (.iconst 1, 1) ∧ 36 + 1 = 37 := ⟨by decide +kernel, rfl⟩
theorem d_Cp_image_37 : decode m_Cp_image.2.1 37 = .ok (.putfield 77, 3) ∧ 37 + 3 = 40 := ⟨by decide +kernel, rfl⟩
theorem d_Cp_image_40 : decode m_Cp_image.2.1 40 = .ok (.aload_n 0, 1) ∧ 40 + 1 = 41 := ⟨by decide +kernel, rfl⟩
theorem d_Cp_image_41 : decode m_Cp_image.2.1 41 = .ok (.getfield 19, 3) ∧ 41 + 3 = 44 := ⟨by decide +kernel, rfl⟩
theorem d_Cp_image_44 : decode m_Cp_image.2.1 44 = .ok (.getfield 106, 3) ∧ 44 + 3 = 47 := ⟨by decide +kernel, rfl⟩
theorem d_Cp_image_47 : decode m_Cp_image.2.1 47 = .ok (.ireturn, 1) := by decide +kernel
theorem d_Cp_restore_0 : decode m_Cp_restore.2.1 0 = .ok (.aload_n 0, 1) ∧ 0 + 1 = 1 := ⟨by decide +kernel, rfl⟩
theorem d_Cp_restore_1 : decode m_Cp_restore.2.1 1 = .ok (.getfield 77, 3) ∧ 1 + 3 = 4 := ⟨by decide +kernel, rfl⟩
theorem d_Cp_restore_4 : decode m_Cp_restore.2.1 4 = .ok (.ifCond .ne 6, 3) ∧ 4 + 3 = 7 ∧ (((4 : Nat) : Int) + (6) = ((10 : Nat) : Int)) := ⟨by decide +kernel, rfl, by decide⟩
theorem d_Cp_restore_7 : decode m_Cp_restore.2.1 7 = .ok (.bipush (-103), 2) ∧ 7 + 2 = 9 ∧ (Int8.ofInt (-103)).toInt32 = Int32.ofInt (-103) := ⟨by decide +kernel, rfl, by decide +kernel⟩
theorem d_Cp_restore_9 : decode m_Cp_restore.2.1 9 = .ok (.ireturn, 1) := by decide +kernel
theorem d_Cp_restore_10 : decode m_Cp_restore.2.1 10 = .ok (.aload_n 0, 1) ∧ 10 + 1 = 11 := ⟨by decide +kernel, rfl⟩
theorem d_Cp_restore_11 : decode m_Cp_restore.2.1 11 = .ok (.getfield 19, 3) ∧ 11 + 3 = 14 := ⟨by decide +kernel, rfl⟩
theorem d_Cp_restore_14 : decode m_Cp_restore.2.1 14 = .ok (.aload_n 0, 1) ∧ 14 + 1 = 15 := ⟨by decide +kernel, rfl⟩
theorem d_Cp_restore_15 : decode m_Cp_restore.2.1 15 = .ok (.getfield 23, 3) ∧ 15 + 3 = 18 := ⟨by decide +kernel, rfl⟩
theorem d_Cp_restore_18 : decode m_Cp_restore.2.1 18 = .ok (.invokevirtual 228, 3) ∧ 18 + 3 = 21 := ⟨by decide +kernel, rfl⟩
theorem d_Cp_restore_21 : decode m_Cp_restore.2.1 21 = .ok (.aload_n 0, 1) ∧ 21 + 1 = 22 := ⟨by decide +kernel, rfl⟩
theorem d_Cp_restore_22 : decode m_Cp_restore.2.1 22 = .ok (.getfield 32, 3) ∧ 22 + 3 = 25 := ⟨by decide +kernel, rfl⟩
theorem d_Cp_restore_25 : decode m_Cp_restore.2.1 25 = .ok (.aload_n 0, 1) ∧ 25 + 1 = 26 := ⟨by decide +kernel, rfl⟩
theorem d_Cp_restore_26 : decode m_Cp_restore.2.1 26 = .ok (.getfield 36, 3) ∧ 26 + 3 = 29 := ⟨by decide +kernel, rfl⟩
theorem d_Cp_restore_29 : decode m_Cp_restore.2.1 29 = .ok (.invokevirtual 241, 3) ∧ 29 + 3 = 32 := ⟨by decide +kernel, rfl⟩
theorem d_Cp_restore_32 : decode m_Cp_restore.2.1 32 = .ok (.aload_n 0, 1) ∧ 32 + 1 = 33 := ⟨by decide +kernel, rfl⟩
theorem d_Cp_restore_33 : decode m_Cp_restore.2.1 33 = .ok (.getfield 42, 3) ∧ 33 + 3 = 36 := ⟨by decide +kernel, rfl⟩
theorem d_Cp_restore_36 : decode m_Cp_restore.2.1 36 = .ok (.aload_n 0, 1) ∧ 36 + 1 = 37 := ⟨by decide +kernel, rfl⟩
theorem d_Cp_restore_37 : decode m_Cp_restore.2.1 37 = .ok (.getfield 19, 3) ∧ 37 + 3 = 40 := ⟨by decide +kernel, rfl⟩
theorem d_Cp_restore_40 : decode m_Cp_restore.2.1 40 = .ok (.invokevirtual 119, 3) ∧ 40 + 3 = 43 := ⟨by decide +kernel, rfl⟩
theorem d_Cp_restore_43 : decode m_Cp_restore.2.1 43 = .ok (.aload_n 0, 1) ∧ 43 + 1 = 44 := ⟨by decide +kernel, rfl⟩
theorem d_Cp_restore_44 : decode m_Cp_restore.2.1 44 = .ok (.getfield 19, 3) ∧ 44 + 3 = 47 := ⟨by decide +kernel, rfl⟩
theorem d_Cp_restore_47 : decode m_Cp_restore.2.1 47 = .ok (.getfield 106, 3) ∧ 47 + 3 = 50 := ⟨by decide +kernel, rfl⟩
theorem d_Cp_restore_50 : decode m_Cp_restore.2.1 50 = .ok (.ireturn, 1) := by decide +kernel
theorem d_Cp_count_0 : decode m_Cp_count.2.1 0 = .ok (.iload_n 1, 1) ∧ 0 + 1 = 1 := ⟨by decide +kernel, rfl⟩
theorem d_Cp_count_1 : decode m_Cp_count.2.1 1 = .ok (.tableswitch 138 0 10 #[59, 67, 75, 83, 91, 99, 107, 115, 120, 125, 130], 59) := by decide +kernel
theorem d_Cp_count_60 : decode m_Cp_count.2.1 60 = .ok (.aload_n 0, 1) ∧ 60 + 1 = 61 := ⟨by decide +kernel, rfl⟩
theorem d_Cp_count_61 : decode m_Cp_count.2.1 61 = .ok (.getfield 19, 3) ∧ 61 + 3 = 64 := ⟨by decide +kernel, rfl⟩
theorem d_Cp_count_64 : decode m_Cp_count.2.1 64 = .ok (.getfield 106, 3) ∧ 64 + 3 = 67 := ⟨by decide +kernel, rfl⟩
theorem d_Cp_count_67 : decode m_Cp_count.2.1 67 = .ok (.ireturn, 1) := by decide +kernel
theorem d_Cp_count_68 : decode m_Cp_count.2.1 68 = .ok (.aload_n 0, 1) ∧ 68 + 1 = 69 := ⟨by decide +kernel, rfl⟩
theorem d_Cp_count_69 : decode m_Cp_count.2.1 69 = .ok (.getfield 42, 3) ∧ 69 + 3 = 72 := ⟨by decide +kernel, rfl⟩
theorem d_Cp_count_72 : decode m_Cp_count.2.1 72 = .ok (.getfield 157, 3) ∧ 72 + 3 = 75 := ⟨by decide +kernel, rfl⟩
theorem d_Cp_count_75 : decode m_Cp_count.2.1 75 = .ok (.ireturn, 1) := by decide +kernel
theorem d_Cp_count_76 : decode m_Cp_count.2.1 76 = .ok (.aload_n 0, 1) ∧ 76 + 1 = 77 := ⟨by decide +kernel, rfl⟩
theorem d_Cp_count_77 : decode m_Cp_count.2.1 77 = .ok (.getfield 42, 3) ∧ 77 + 3 = 80 := ⟨by decide +kernel, rfl⟩
theorem d_Cp_count_80 : decode m_Cp_count.2.1 80 = .ok (.getfield 244, 3) ∧ 80 + 3 = 83 := ⟨by decide +kernel, rfl⟩
theorem d_Cp_count_83 : decode m_Cp_count.2.1 83 = .ok (.ireturn, 1) := by decide +kernel
theorem d_Cp_count_84 : decode m_Cp_count.2.1 84 = .ok (.aload_n 0, 1) ∧ 84 + 1 = 85 := ⟨by decide +kernel, rfl⟩
theorem d_Cp_count_85 : decode m_Cp_count.2.1 85 = .ok (.getfield 42, 3) ∧ 85 + 3 = 88 := ⟨by decide +kernel, rfl⟩
theorem d_Cp_count_88 : decode m_Cp_count.2.1 88 = .ok (.invokevirtual 203, 3) ∧ 88 + 3 = 91 := ⟨by decide +kernel, rfl⟩
theorem d_Cp_count_91 : decode m_Cp_count.2.1 91 = .ok (.ireturn, 1) := by decide +kernel
theorem d_Cp_count_92 : decode m_Cp_count.2.1 92 = .ok (.aload_n 0, 1) ∧ 92 + 1 = 93 := ⟨by decide +kernel, rfl⟩
theorem d_Cp_count_93 : decode m_Cp_count.2.1 93 = .ok (.getfield 42, 3) ∧ 93 + 3 = 96 := ⟨by decide +kernel, rfl⟩
theorem d_Cp_count_96 : decode m_Cp_count.2.1 96 = .ok (.invokevirtual 245, 3) ∧ 96 + 3 = 99 := ⟨by decide +kernel, rfl⟩
theorem d_Cp_count_99 : decode m_Cp_count.2.1 99 = .ok (.ireturn, 1) := by decide +kernel
theorem d_Cp_count_100 : decode m_Cp_count.2.1 100 = .ok (.aload_n 0, 1) ∧ 100 + 1 = 101 := ⟨by decide +kernel, rfl⟩
theorem d_Cp_count_101 : decode m_Cp_count.2.1 101 = .ok (.getfield 32, 3) ∧ 101 + 3 = 104 := ⟨by decide +kernel, rfl⟩
theorem d_Cp_count_104 : decode m_Cp_count.2.1 104 = .ok (.getfield 118, 3) ∧ 104 + 3 = 107 := ⟨by decide +kernel, rfl⟩
theorem d_Cp_count_107 : decode m_Cp_count.2.1 107 = .ok (.ireturn, 1) := by decide +kernel
theorem d_Cp_count_108 : decode m_Cp_count.2.1 108 = .ok (.aload_n 0, 1) ∧ 108 + 1 = 109 := ⟨by decide +kernel, rfl⟩
theorem d_Cp_count_109 : decode m_Cp_count.2.1 109 = .ok (.getfield 12, 3) ∧ 109 + 3 = 112 := ⟨by decide +kernel, rfl⟩
theorem d_Cp_count_112 : decode m_Cp_count.2.1 112 = .ok (.getfield 95, 3) ∧ 112 + 3 = 115 := ⟨by decide +kernel, rfl⟩
theorem d_Cp_count_115 : decode m_Cp_count.2.1 115 = .ok (.ireturn, 1) := by decide +kernel
theorem d_Cp_count_116 : decode m_Cp_count.2.1 116 = .ok (.aload_n 0, 1) ∧ 116 + 1 = 117 := ⟨by decide +kernel, rfl⟩
theorem d_Cp_count_117 : decode m_Cp_count.2.1 117 = .ok (.getfield 81, 3) ∧ 117 + 3 = 120 := ⟨by decide +kernel, rfl⟩
theorem d_Cp_count_120 : decode m_Cp_count.2.1 120 = .ok (.ireturn, 1) := by decide +kernel
theorem d_Cp_count_121 : decode m_Cp_count.2.1 121 = .ok (.aload_n 0, 1) ∧ 121 + 1 = 122 := ⟨by decide +kernel, rfl⟩
theorem d_Cp_count_122 : decode m_Cp_count.2.1 122 = .ok (.getfield 85, 3) ∧ 122 + 3 = 125 := ⟨by decide +kernel, rfl⟩
theorem d_Cp_count_125 : decode m_Cp_count.2.1 125 = .ok (.ireturn, 1) := by decide +kernel
theorem d_Cp_count_126 : decode m_Cp_count.2.1 126 = .ok (.aload_n 0, 1) ∧ 126 + 1 = 127 := ⟨by decide +kernel, rfl⟩
theorem d_Cp_count_127 : decode m_Cp_count.2.1 127 = .ok (.getfield 88, 3) ∧ 127 + 3 = 130 := ⟨by decide +kernel, rfl⟩
theorem d_Cp_count_130 : decode m_Cp_count.2.1 130 = .ok (.ireturn, 1) := by decide +kernel
theorem d_Cp_count_131 : decode m_Cp_count.2.1 131 = .ok (.aload_n 0, 1) ∧ 131 + 1 = 132 := ⟨by decide +kernel, rfl⟩
theorem d_Cp_count_132 : decode m_Cp_count.2.1 132 = .ok (.getfield 73, 3) ∧ 132 + 3 = 135 := ⟨by decide +kernel, rfl⟩
theorem d_Cp_count_135 : decode m_Cp_count.2.1 135 = .ok (.getfield 237, 3) ∧ 135 + 3 = 138 := ⟨by decide +kernel, rfl⟩
theorem d_Cp_count_138 : decode m_Cp_count.2.1 138 = .ok (.ireturn, 1) := by decide +kernel
theorem d_Cp_count_139 : decode m_Cp_count.2.1 139 = .ok (.bipush (-102), 2) ∧ 139 + 2 = 141 ∧ (Int8.ofInt (-102)).toInt32 = Int32.ofInt (-102) := ⟨by decide +kernel, rfl, by decide +kernel⟩
theorem d_Cp_count_141 : decode m_Cp_count.2.1 141 = .ok (.ireturn, 1) := by decide +kernel
theorem d_Cp_digest_0 : decode m_Cp_digest.2.1 0 = .ok (.aload_n 0, 1) ∧ 0 + 1 = 1 := ⟨by decide +kernel, rfl⟩
theorem d_Cp_digest_1 : decode m_Cp_digest.2.1 1 = .ok (.aload_n 0, 1) ∧ 1 + 1 = 2 := ⟨by decide +kernel, rfl⟩
theorem d_Cp_digest_2 : decode m_Cp_digest.2.1 2 = .ok (.aload_n 0, 1) ∧ 2 + 1 = 3 := ⟨by decide +kernel, rfl⟩
theorem d_Cp_digest_3 : decode m_Cp_digest.2.1 3 = .ok (.ldc2_w 248, 3) ∧ 3 + 3 = 6 := ⟨by decide +kernel, rfl⟩
theorem d_Cp_digest_6 : decode m_Cp_digest.2.1 6 = .ok (.invokevirtual 250, 3) ∧ 6 + 3 = 9 := ⟨by decide +kernel, rfl⟩
theorem d_Cp_digest_9 : decode m_Cp_digest.2.1 9 = .ok (.invokevirtual 254, 3) ∧ 9 + 3 = 12 := ⟨by decide +kernel, rfl⟩
theorem d_Cp_digest_12 : decode m_Cp_digest.2.1 12 = .ok (.invokevirtual 257, 3) ∧ 12 + 3 = 15 := ⟨by decide +kernel, rfl⟩
theorem d_Cp_digest_15 : decode m_Cp_digest.2.1 15 = .ok (.lstore_n 1, 1) ∧ 15 + 1 = 16 := ⟨by decide +kernel, rfl⟩
theorem d_Cp_digest_16 : decode m_Cp_digest.2.1 16 = .ok (.aload_n 0, 1) ∧ 16 + 1 = 17 := ⟨by decide +kernel, rfl⟩
theorem d_Cp_digest_17 : decode m_Cp_digest.2.1 17 = .ok (.getfield 19, 3) ∧ 17 + 3 = 20 := ⟨by decide +kernel, rfl⟩
theorem d_Cp_digest_20 : decode m_Cp_digest.2.1 20 = .ok (.getfield 106, 3) ∧ 20 + 3 = 23 := ⟨by decide +kernel, rfl⟩
theorem d_Cp_digest_23 : decode m_Cp_digest.2.1 23 = .ok (.ifCond .le 16, 3) ∧ 23 + 3 = 26 ∧ (((23 : Nat) : Int) + (16) = ((39 : Nat) : Int)) := ⟨by decide +kernel, rfl, by decide⟩
theorem d_Cp_digest_26 : decode m_Cp_digest.2.1 26 = .ok (.lload_n 1, 1) ∧ 26 + 1 = 27 := ⟨by decide +kernel, rfl⟩
theorem d_Cp_digest_27 : decode m_Cp_digest.2.1 27 = .ok (.aload_n 0, 1) ∧ 27 + 1 = 28 := ⟨by decide +kernel, rfl⟩
theorem d_Cp_digest_28 : decode m_Cp_digest.2.1 28 = .ok (.iconst 0, 1) ∧ 28 + 1 = 29 := ⟨by decide +kernel, rfl⟩
theorem d_Cp_digest_29 : decode m_Cp_digest.2.1 29 = .ok (.sipush 1000, 3) ∧ 29 + 3 = 32 ∧ (Int16.ofInt 1000).toInt32 = Int32.ofInt 1000 := ⟨by decide +kernel, rfl, by decide +kernel⟩
theorem d_Cp_digest_32 : decode m_Cp_digest.2.1 32 = .ok (.invokevirtual 260, 3) ∧ 32 + 3 = 35 := ⟨by decide +kernel, rfl⟩
theorem d_Cp_digest_35 : decode m_Cp_digest.2.1 35 = .ok (.invokestatic 263, 3) ∧ 35 + 3 = 38 := ⟨by decide +kernel, rfl⟩
theorem d_Cp_digest_38 : decode m_Cp_digest.2.1 38 = .ok (.lstore_n 1, 1) ∧ 38 + 1 = 39 := ⟨by decide +kernel, rfl⟩
theorem d_Cp_digest_39 : decode m_Cp_digest.2.1 39 = .ok (.iconst 0, 1) ∧ 39 + 1 = 40 := ⟨by decide +kernel, rfl⟩
theorem d_Cp_digest_40 : decode m_Cp_digest.2.1 40 = .ok (.istore_n 3, 1) ∧ 40 + 1 = 41 := ⟨by decide +kernel, rfl⟩
theorem d_Cp_digest_41 : decode m_Cp_digest.2.1 41 = .ok (.iload_n 3, 1) ∧ 41 + 1 = 42 := ⟨by decide +kernel, rfl⟩
theorem d_Cp_digest_42 : decode m_Cp_digest.2.1 42 = .ok (.aload_n 0, 1) ∧ 42 + 1 = 43 := ⟨by decide +kernel, rfl⟩
theorem d_Cp_digest_43 : decode m_Cp_digest.2.1 43 = .ok (.getfield 73, 3) ∧ 43 + 3 = 46 := ⟨by decide +kernel, rfl⟩
theorem d_Cp_digest_46 : decode m_Cp_digest.2.1 46 = .ok (.getfield 237, 3) ∧ 46 + 3 = 49 := ⟨by decide +kernel, rfl⟩
theorem d_Cp_digest_49 : decode m_Cp_digest.2.1 49 = .ok (.if_icmp .ge 22, 3) ∧ 49 + 3 = 52 ∧ (((49 : Nat) : Int) + (22) = ((71 : Nat) : Int)) := ⟨by decide +kernel, rfl, by decide⟩
theorem d_Cp_digest_52 : decode m_Cp_digest.2.1 52 = .ok (.lload_n 1, 1) ∧ 52 + 1 = 53 := ⟨by decide +kernel, rfl⟩
theorem d_Cp_digest_53 : decode m_Cp_digest.2.1 53 = .ok (.aload_n 0, 1) ∧ 53 + 1 = 54 := ⟨by decide +kernel, rfl⟩
theorem d_Cp_digest_54 : decode m_Cp_digest.2.1 54 = .ok (.getfield 73, 3) ∧ 54 + 3 = 57 := ⟨by decide +kernel, rfl⟩
theorem d_Cp_digest_57 : decode m_Cp_digest.2.1 57 = .ok (.iload_n 3, 1) ∧ 57 + 1 = 58 := ⟨by decide +kernel, rfl⟩
theorem d_Cp_digest_58 : decode m_Cp_digest.2.1 58 = .ok (.invokevirtual 238, 3) ∧ 58 + 3 = 61 := ⟨by decide +kernel, rfl⟩
theorem d_Cp_digest_61 : decode m_Cp_digest.2.1 61 = .ok (.invokestatic 263, 3) ∧ 61 + 3 = 64 := ⟨by decide +kernel, rfl⟩
theorem d_Cp_digest_64 : decode m_Cp_digest.2.1 64 = .ok (.lstore_n 1, 1) ∧ 64 + 1 = 65 := ⟨by decide +kernel, rfl⟩
theorem d_Cp_digest_65 : decode m_Cp_digest.2.1 65 = .ok (.iinc 3 1, 3) ∧ 65 + 3 = 68 := ⟨by decide +kernel, rfl⟩
theorem d_Cp_digest_68 : decode m_Cp_digest.2.1 68 = .ok (.goto (-27), 3) ∧ (((68 : Nat) : Int) + (-27) = ((41 : Nat) : Int)) := ⟨by decide +kernel, by decide⟩
theorem d_Cp_digest_71 : decode m_Cp_digest.2.1 71 = .ok (.iconst 0, 1) ∧ 71 + 1 = 72 := ⟨by decide +kernel, rfl⟩
theorem d_Cp_digest_72 : decode m_Cp_digest.2.1 72 = .ok (.istore_n 3, 1) ∧ 72 + 1 = 73 := ⟨by decide +kernel, rfl⟩
theorem d_Cp_digest_73 : decode m_Cp_digest.2.1 73 = .ok (.iload_n 3, 1) ∧ 73 + 1 = 74 := ⟨by decide +kernel, rfl⟩
theorem d_Cp_digest_74 : decode m_Cp_digest.2.1 74 = .ok (.aload_n 0, 1) ∧ 74 + 1 = 75 := ⟨by decide +kernel, rfl⟩
theorem d_Cp_digest_75 : decode m_Cp_digest.2.1 75 = .ok (.getfield 12, 3) ∧ 75 + 3 = 78 := ⟨by decide +kernel, rfl⟩
theorem d_Cp_digest_78 : decode m_Cp_digest.2.1 78 = .ok (.getfield 95, 3) ∧ 78 + 3 = 81 := ⟨by decide +kernel, rfl⟩
theorem d_Cp_digest_81 : decode m_Cp_digest.2.1 81 = .ok (.if_icmp .ge 23, 3) ∧ 81 + 3 = 84 ∧ (((81 : Nat) : Int) + (23) = ((104 : Nat) : Int)) := ⟨by decide +kernel, rfl, by decide⟩
theorem d_Cp_digest_84 : decode m_Cp_digest.2.1 84 = .ok (.lload_n 1, 1) ∧ 84 + 1 = 85 := ⟨by decide +kernel, rfl⟩
theorem d_Cp_digest_85 : decode m_Cp_digest.2.1 85 = .ok (.aload_n 0, 1) ∧ 85 + 1 = 86 := ⟨by decide +kernel, rfl⟩
theorem d_Cp_digest_86 : decode m_Cp_digest.2.1 86 = .ok (.getfield 12, 3) ∧ 86 + 3 = 89 := ⟨by decide +kernel, rfl⟩
theorem d_Cp_digest_89 : decode m_Cp_digest.2.1 89 = .ok (.getfield 267, 3) ∧ 89 + 3 = 92 := ⟨by decide +kernel, rfl⟩
theorem d_Cp_digest_92 : decode m_Cp_digest.2.1 92 = .ok (.iload_n 3, 1) ∧ 92 + 1 = 93 := ⟨by decide +kernel, rfl⟩
theorem d_Cp_digest_93 : decode m_Cp_digest.2.1 93 = .ok (.iaload, 1) ∧ 93 + 1 = 94 := ⟨by decide +kernel, rfl⟩
theorem d_Cp_digest_94 : decode m_Cp_digest.2.1 94 = .ok (.invokestatic 263, 3) ∧ 94 + 3 = 97 := ⟨by decide +kernel, rfl⟩
theorem d_Cp_digest_97 : decode m_Cp_digest.2.1 97 = .ok (.lstore_n 1, 1) ∧ 97 + 1 = 98 := ⟨by decide +kernel, rfl⟩
theorem d_Cp_digest_98 : decode m_Cp_digest.2.1 98 = .ok (.iinc 3 1, 3) ∧ 98 + 3 = 101 := ⟨by decide +kernel, rfl⟩
theorem d_Cp_digest_101 : decode m_Cp_digest.2.1 101 = .ok (.goto (-28), 3) ∧ (((101 : Nat) : Int) + (-28) = ((73 : Nat) : Int)) := ⟨by decide +kernel, by decide⟩
theorem d_Cp_digest_104 : decode m_Cp_digest.2.1 104 = .ok (.iconst 0, 1) ∧ 104 + 1 = 105 := ⟨by decide +kernel, rfl⟩
theorem d_Cp_digest_105 : decode m_Cp_digest.2.1 105 = .ok (.istore_n 3, 1) ∧ 105 + 1 = 106 := ⟨by decide +kernel, rfl⟩
theorem d_Cp_digest_106 : decode m_Cp_digest.2.1 106 = .ok (.iload_n 3, 1) ∧ 106 + 1 = 107 := ⟨by decide +kernel, rfl⟩
theorem d_Cp_digest_107 : decode m_Cp_digest.2.1 107 = .ok (.bipush 10, 2) ∧ 107 + 2 = 109 ∧ (Int8.ofInt 10).toInt32 = Int32.ofInt 10 := ⟨by decide +kernel, rfl, by decide +kernel⟩
theorem d_Cp_digest_109 : decode m_Cp_digest.2.1 109 = .ok (.if_icmp .gt 19, 3) ∧ 109 + 3 = 112 ∧ (((109 : Nat) : Int) + (19) = ((128 : Nat) : Int)) := ⟨by decide +kernel, rfl, by decide⟩
theorem d_Cp_digest_112 : decode m_Cp_digest.2.1 112 = .ok (.lload_n 1, 1) ∧ 112 + 1 = 113 := ⟨by decide +kernel, rfl⟩
theorem d_Cp_digest_113 : decode m_Cp_digest.2.1 113 = .ok (.aload_n 0, 1) ∧ 113 + 1 = 114 := ⟨by decide +kernel, rfl⟩
theorem d_Cp_digest_114 : decode m_Cp_digest.2.1 114 = .ok (.iload_n 3, 1) ∧ 114 + 1 = 115 := ⟨by decide +kernel, rfl⟩
theorem d_Cp_digest_115 : decode m_Cp_digest.2.1 115 = .ok (.invokevirtual 270, 3) ∧ 115 + 3 = 118 := ⟨by decide +kernel, rfl⟩
theorem d_Cp_digest_118 : decode m_Cp_digest.2.1 118 = .ok (.invokestatic 263, 3) ∧ 118 + 3 = 121 := ⟨by decide +kernel, rfl⟩
theorem d_Cp_digest_121 : decode m_Cp_digest.2.1 121 = .ok (.lstore_n 1, 1) ∧ 121 + 1 = 122 := ⟨by decide +kernel, rfl⟩
theorem d_Cp_digest_122 : decode m_Cp_digest.2.1 122 = .ok (.iinc 3 1, 3) ∧ 122 + 3 = 125 := ⟨by decide +kernel, rfl⟩
theorem d_Cp_digest_125 : decode m_Cp_digest.2.1 125 = .ok (.goto (-19), 3) ∧ (((125 : Nat) : Int) + (-19) = ((106 : Nat) : Int)) := ⟨by decide +kernel, by decide⟩
theorem d_Cp_digest_128 : decode m_Cp_digest.2.1 128 = .ok (.lload_n 1, 1) ∧ 128 + 1 = 129 := ⟨by decide +kernel, rfl⟩
theorem d_Cp_digest_129 : decode m_Cp_digest.2.1 129 = .ok (.lreturn, 1) := by decide +kernel
theorem d_Cp_mix_0 : decode m_Cp_mix.2.1 0 = .ok (.ldc2_w 273, 3) ∧ 0 + 3 = 3 := ⟨by decide +kernel, rfl⟩
theorem d_Cp_mix_3 : decode m_Cp_mix.2.1 3 = .ok (.lload_n 0, 1) ∧ 3 + 1 = 4 := ⟨by decide +kernel, rfl⟩
theorem d_Cp_mix_4 : decode m_Cp_mix.2.1 4 = .ok (.lmul, 1) ∧ 4 + 1 = 5 := ⟨by decide +kernel, rfl⟩
theorem d_Cp_mix_5 : decode m_Cp_mix.2.1 5 = .ok (.iload_n 2, 1) ∧ 5 + 1 = 6 := ⟨by decide +kernel, rfl⟩
theorem d_Cp_mix_6 : decode m_Cp_mix.2.1 6 = .ok (.i2l, 1) ∧ 6 + 1 = 7 := ⟨by decide +kernel, rfl⟩
theorem d_Cp_mix_7 : decode m_Cp_mix.2.1 7 = .ok (.ladd, 1) ∧ 7 + 1 = 8 := ⟨by decide +kernel, rfl⟩
theorem d_Cp_mix_8 : decode m_Cp_mix.2.1 8 = .ok (.lreturn, 1) := by decide +kernel
theorem d_Cp_mixCurves_0 : decode m_Cp_mixCurves.2.1 0 = .ok (.lload_n 1, 1) ∧ 0 + 1 = 1 := ⟨by decide +kernel, rfl⟩
theorem d_Cp_mixCurves_1 : decode m_Cp_mixCurves.2.1 1 = .ok (.lstore_n 3, 1) ∧ 1 + 1 = 2 := ⟨by decide +kernel, rfl⟩
theorem d_Cp_mixCurves_2 : decode m_Cp_mixCurves.2.1 2 = .ok (.iconst 0, 1) ∧ 2 + 1 = 3 := ⟨by decide +kernel, rfl⟩
theorem d_Cp_mixCurves_3 : decode m_Cp_mixCurves.2.1 3 = .ok (.istore 5, 2) ∧ 3 + 2 = 5 := ⟨by decide +kernel, rfl⟩
theorem d_Cp_mixCurves_5 : decode m_Cp_mixCurves.2.1 5 = .ok (.iload 5, 2) ∧ 5 + 2 = 7 := ⟨by decide +kernel, rfl⟩
theorem d_Cp_mixCurves_7 : decode m_Cp_mixCurves.2.1 7 = .ok (.aload_n 0, 1) ∧ 7 + 1 = 8 := ⟨by decide +kernel, rfl⟩
theorem d_Cp_mixCurves_8 : decode m_Cp_mixCurves.2.1 8 = .ok (.getfield 19, 3) ∧ 8 + 3 = 11 := ⟨by decide +kernel, rfl⟩
theorem d_Cp_mixCurves_11 : decode m_Cp_mixCurves.2.1 11 = .ok (.getfield 106, 3) ∧ 11 + 3 = 14 := ⟨by decide +kernel, rfl⟩
theorem d_Cp_mixCurves_14 : decode m_Cp_mixCurves.2.1 14 = .ok (.if_icmp .ge 37, 3) ∧ 14 + 3 = 17 ∧ (((14 : Nat) : Int) + (37) = ((51 : Nat) : Int)) := ⟨by decide +kernel, rfl, by decide⟩
theorem d_Cp_mixCurves_17 : decode m_Cp_mixCurves.2.1 17 = .ok (.iconst 0, 1) ∧ 17 + 1 = 18 := ⟨by decide +kernel, rfl⟩
theorem d_Cp_mixCurves_18 : decode m_Cp_mixCurves.2.1 18 = .ok (.istore 6, 2) ∧ 18 + 2 = 20 := ⟨by decide +kernel, rfl⟩
theorem d_Cp_mixCurves_20 : decode m_Cp_mixCurves.2.1 20 = .ok (.iload 6, 2) ∧ 20 + 2 = 22 := ⟨by decide +kernel, rfl⟩
theorem d_Cp_mixCurves_22 : decode m_Cp_mixCurves.2.1 22 = .ok (.iconst 5, 1) ∧ 22 + 1 = 23 := ⟨by decide +kernel, rfl⟩
theorem d_Cp_mixCurves_23 : decode m_Cp_mixCurves.2.1 23 = .ok (.if_icmp .gt 22, 3) ∧ 23 + 3 = 26 ∧ (((23 : Nat) : Int) + (22) = ((45 : Nat) : Int)) := ⟨by decide +kernel, rfl, by decide⟩
theorem d_Cp_mixCurves_26 : decode m_Cp_mixCurves.2.1 26 = .ok (.lload_n 3, 1) ∧ 26 + 1 = 27 := ⟨by decide +kernel, rfl⟩
theorem d_Cp_mixCurves_27 : decode m_Cp_mixCurves.2.1 27 = .ok (.aload_n 0, 1) ∧ 27 + 1 = 28 := ⟨by decide +kernel, rfl⟩
theorem d_Cp_mixCurves_28 : decode m_Cp_mixCurves.2.1 28 = .ok (.iload 5, 2) ∧ 28 + 2 = 30 := ⟨by decide +kernel, rfl⟩
theorem d_Cp_mixCurves_30 : decode m_Cp_mixCurves.2.1 30 = .ok (.iload 6, 2) ∧ 30 + 2 = 32 := ⟨by decide +kernel, rfl⟩
theorem d_Cp_mixCurves_32 : decode m_Cp_mixCurves.2.1 32 = .ok (.invokevirtual 275, 3) ∧ 32 + 3 = 35 := ⟨by decide +kernel, rfl⟩
theorem d_Cp_mixCurves_35 : decode m_Cp_mixCurves.2.1 35 = .ok (.invokestatic 263, 3) ∧ 35 + 3 = 38 := ⟨by decide +kernel, rfl⟩
theorem d_Cp_mixCurves_38 : decode m_Cp_mixCurves.2.1 38 = .ok (.lstore_n 3, 1) ∧ 38 + 1 = 39 := ⟨by decide +kernel, rfl⟩
theorem d_Cp_mixCurves_39 : decode m_Cp_mixCurves.2.1 39 = .ok (.iinc 6 1, 3) ∧ 39 + 3 = 42 := ⟨by decide +kernel, rfl⟩
theorem d_Cp_mixCurves_42 : decode m_Cp_mixCurves.2.1 42 = .ok (.goto (-22), 3) ∧ (((42 : Nat) : Int) + (-22) = ((20 : Nat) : Int)) := ⟨by decide +kernel, by decide⟩
theorem d_Cp_mixCurves_45 : decode m_Cp_mixCurves.2.1 45 = .ok (.iinc 5 1, 3) ∧ 45 + 3 = 48 := ⟨by decide +kernel, rfl⟩
theorem d_Cp_mixCurves_48 : decode m_Cp_mixCurves.2.1 48 = .ok (.goto (-43), 3) ∧ (((48 : Nat) : Int) + (-43) = ((5 : Nat) : Int)) := ⟨by decide +kernel, by decide⟩
theorem d_Cp_mixCurves_51 : decode m_Cp_mixCurves.2.1 51 = .ok (.lload_n 3, 1) ∧ 51 + 1 = 52 := ⟨by decide +kernel, rfl⟩
theorem d_Cp_mixCurves_52 : decode m_Cp_mixCurves.2.1 52 = .ok (.lreturn, 1) := by decide +kernel
theorem d_Cp_mixPoints_0 : decode m_Cp_mixPoints.2.1 0 = .ok (.lload_n 1, 1) ∧ 0 + 1 = 1 := ⟨by decide +kernel, rfl⟩
theorem d_Cp_mixPoints_1 : decode m_Cp_mixPoints.2.1 1 = .ok (.lstore_n 3, 1) ∧ 1 + 1 = 2 := ⟨by decide +kernel, rfl⟩
theorem d_Cp_mixPoints_2 : decode m_Cp_mixPoints.2.1 2 = .ok (.iconst 0, 1) ∧ 2 + 1 = 3 := ⟨by decide +kernel, rfl⟩
theorem d_Cp_mixPoints_3 : decode m_Cp_mixPoints.2.1 3 = .ok (.istore 5, 2) ∧ 3 + 2 = 5 := ⟨by decide +kernel, rfl⟩
theorem d_Cp_mixPoints_5 : decode m_Cp_mixPoints.2.1 5 = .ok (.iload 5, 2) ∧ 5 + 2 = 7 := ⟨by decide +kernel, rfl⟩
theorem d_Cp_mixPoints_7 : decode m_Cp_mixPoints.2.1 7 = .ok (.aload_n 0, 1) ∧ 7 + 1 = 8 := ⟨by decide +kernel, rfl⟩
theorem d_Cp_mixPoints_8 : decode m_Cp_mixPoints.2.1 8 = .ok (.getfield 42, 3) ∧ 8 + 3 = 11 := ⟨by decide +kernel, rfl⟩
theorem d_Cp_mixPoints_11 : decode m_Cp_mixPoints.2.1 11 = .ok (.getfield 157, 3) ∧ 11 + 3 = 14 := ⟨by decide +kernel, rfl⟩
theorem d_Cp_mixPoints_14 : decode m_Cp_mixPoints.2.1 14 = .ok (.if_icmp .ge 37, 3) ∧ 14 + 3 = 17 ∧ (((14 : Nat) : Int) + (37) = ((51 : Nat) : Int)) := ⟨by decide +kernel, rfl, by decide⟩
theorem d_Cp_mixPoints_17 : decode m_Cp_mixPoints.2.1 17 = .ok (.iconst 0, 1) ∧ 17 + 1 = 18 := ⟨by decide +kernel, rfl⟩
theorem d_Cp_mixPoints_18 : decode m_Cp_mixPoints.2.1 18 = .ok (.istore 6, 2) ∧ 18 + 2 = 20 := ⟨by decide +kernel, rfl⟩
theorem d_Cp_mixPoints_20 : decode m_Cp_mixPoints.2.1 20 = .ok (.iload 6, 2) ∧ 20 + 2 = 22 := ⟨by decide +kernel, rfl⟩
theorem d_Cp_mixPoints_22 : decode m_Cp_mixPoints.2.1 22 = .ok (.iconst 3, 1) ∧ 22 + 1 = 23 := ⟨by decide +kernel, rfl⟩
theorem d_Cp_mixPoints_23 : decode m_Cp_mixPoints.2.1 23 = .ok (.if_icmp .gt 22, 3) ∧ 23 + 3 = 26 ∧ (((23 : Nat) : Int) + (22) = ((45 : Nat) : Int)) := ⟨by decide +kernel, rfl, by decide⟩
theorem d_Cp_mixPoints_26 : decode m_Cp_mixPoints.2.1 26 = .ok (.lload_n 3, 1) ∧ 26 + 1 = 27 := ⟨by decide +kernel, rfl⟩
theorem d_Cp_mixPoints_27 : decode m_Cp_mixPoints.2.1 27 = .ok (.aload_n 0, 1) ∧ 27 + 1 = 28 := ⟨by decide +kernel, rfl⟩
theorem d_Cp_mixPoints_28 : decode m_Cp_mixPoints.2.1 28 = .ok (.iload 5, 2) ∧ 28 + 2 = 30 := ⟨by decide +kernel, rfl⟩
theorem d_Cp_mixPoints_30 : decode m_Cp_mixPoints.2.1 30 = .ok (.iload 6, 2) ∧ 30 + 2 = 32 := ⟨by decide +kernel, rfl⟩
theorem d_Cp_mixPoints_32 : decode m_Cp_mixPoints.2.1 32 = .ok (.invokevirtual 278, 3) ∧ 32 + 3 = 35 := ⟨by decide +kernel, rfl⟩
theorem d_Cp_mixPoints_35 : decode m_Cp_mixPoints.2.1 35 = .ok (.invokestatic 263, 3) ∧ 35 + 3 = 38 := ⟨by decide +kernel, rfl⟩
theorem d_Cp_mixPoints_38 : decode m_Cp_mixPoints.2.1 38 = .ok (.lstore_n 3, 1) ∧ 38 + 1 = 39 := ⟨by decide +kernel, rfl⟩
theorem d_Cp_mixPoints_39 : decode m_Cp_mixPoints.2.1 39 = .ok (.iinc 6 1, 3) ∧ 39 + 3 = 42 := ⟨by decide +kernel, rfl⟩
theorem d_Cp_mixPoints_42 : decode m_Cp_mixPoints.2.1 42 = .ok (.goto (-22), 3) ∧ (((42 : Nat) : Int) + (-22) = ((20 : Nat) : Int)) := ⟨by decide +kernel, by decide⟩
theorem d_Cp_mixPoints_45 : decode m_Cp_mixPoints.2.1 45 = .ok (.iinc 5 1, 3) ∧ 45 + 3 = 48 := ⟨by decide +kernel, rfl⟩
theorem d_Cp_mixPoints_48 : decode m_Cp_mixPoints.2.1 48 = .ok (.goto (-43), 3) ∧ (((48 : Nat) : Int) + (-43) = ((5 : Nat) : Int)) := ⟨by decide +kernel, by decide⟩
theorem d_Cp_mixPoints_51 : decode m_Cp_mixPoints.2.1 51 = .ok (.lload_n 3, 1) ∧ 51 + 1 = 52 := ⟨by decide +kernel, rfl⟩
theorem d_Cp_mixPoints_52 : decode m_Cp_mixPoints.2.1 52 = .ok (.lreturn, 1) := by decide +kernel
theorem d_Cp_mixStacks_0 : decode m_Cp_mixStacks.2.1 0 = .ok (.lload_n 1, 1) ∧ 0 + 1 = 1 := ⟨by decide +kernel, rfl⟩
theorem d_Cp_mixStacks_1 : decode m_Cp_mixStacks.2.1 1 = .ok (.lstore_n 3, 1) ∧ 1 + 1 = 2 := ⟨by decide +kernel, rfl⟩
theorem d_Cp_mixStacks_2 : decode m_Cp_mixStacks.2.1 2 = .ok (.iconst 0, 1) ∧ 2 + 1 = 3 := ⟨by decide +kernel, rfl⟩
theorem d_Cp_mixStacks_3 : decode m_Cp_mixStacks.2.1 3 = .ok (.istore 5, 2) ∧ 3 + 2 = 5 := ⟨by decide +kernel, rfl⟩
theorem d_Cp_mixStacks_5 : decode m_Cp_mixStacks.2.1 5 = .ok (.iload 5, 2) ∧ 5 + 2 = 7 := ⟨by decide +kernel, rfl⟩
theorem d_Cp_mixStacks_7 : decode m_Cp_mixStacks.2.1 7 = .ok (.aload_n 0, 1) ∧ 7 + 1 = 8 := ⟨by decide +kernel, rfl⟩
theorem d_Cp_mixStacks_8 : decode m_Cp_mixStacks.2.1 8 = .ok (.getfield 42, 3) ∧ 8 + 3 = 11 := ⟨by decide +kernel, rfl⟩
theorem d_Cp_mixStacks_11 : decode m_Cp_mixStacks.2.1 11 = .ok (.getfield 244, 3) ∧ 11 + 3 = 14 := ⟨by decide +kernel, rfl⟩
theorem d_Cp_mixStacks_14 : decode m_Cp_mixStacks.2.1 14 = .ok (.if_icmp .ge 89, 3) ∧ 14 + 3 = 17 ∧ (((14 : Nat) : Int) + (89) = ((103 : Nat) : Int)) := ⟨by decide +kernel, rfl, by decide⟩
theorem d_Cp_mixStacks_17 : decode m_Cp_mixStacks.2.1 17 = .ok (.lload_n 3, 1) ∧ 17 + 1 = 18 := ⟨by decide +kernel, rfl⟩
theorem d_Cp_mixStacks_18 : decode m_Cp_mixStacks.2.1 18 = .ok (.aload_n 0, 1) ∧ 18 + 1 = 19 := ⟨by decide +kernel, rfl⟩
theorem d_Cp_mixStacks_19 : decode m_Cp_mixStacks.2.1 19 = .ok (.getfield 42, 3) ∧ 19 + 3 = 22 := ⟨by decide +kernel, rfl⟩
theorem d_Cp_mixStacks_22 : decode m_Cp_mixStacks.2.1 22 = .ok (.getfield 180, 3) ∧ 22 + 3 = 25 := ⟨by decide +kernel, rfl⟩
theorem d_Cp_mixStacks_25 : decode m_Cp_mixStacks.2.1 25 = .ok (.iload 5, 2) ∧ 25 + 2 = 27 := ⟨by decide +kernel, rfl⟩
theorem d_Cp_mixStacks_27 : decode m_Cp_mixStacks.2.1 27 = .ok (.iaload, 1) ∧ 27 + 1 = 28 := ⟨by decide +kernel, rfl⟩
theorem d_Cp_mixStacks_28 : decode m_Cp_mixStacks.2.1 28 = .ok (.iconst 1, 1) ∧ 28 + 1 = 29 := ⟨by decide +kernel, rfl⟩
theorem d_Cp_mixStacks_29 : decode m_Cp_mixStacks.2.1 29 = .ok (.iadd, 1) ∧ 29 + 1 = 30 := ⟨by decide +kernel, rfl⟩
theorem d_Cp_mixStacks_30 : decode m_Cp_mixStacks.2.1 30 = .ok (.invokestatic 263, 3) ∧ 30 + 3 = 33 := ⟨by decide +kernel, rfl⟩
theorem d_Cp_mixStacks_33 : decode m_Cp_mixStacks.2.1 33 = .ok (.lstore_n 3, 1) ∧ 33 + 1 = 34 := ⟨by decide +kernel, rfl⟩
theorem d_Cp_mixStacks_34 : decode m_Cp_mixStacks.2.1 34 = .ok (.iconst 0, 1) ∧ 34 + 1 = 35 := ⟨by decide +kernel, rfl⟩
theorem d_Cp_mixStacks_35 : decode m_Cp_mixStacks.2.1 35 = .ok (.istore 6, 2) ∧ 35 + 2 = 37 := ⟨by decide +kernel, rfl⟩
theorem d_Cp_mixStacks_37 : decode m_Cp_mixStacks.2.1 37 = .ok (.iload 6, 2) ∧ 37 + 2 = 39 := ⟨by decide +kernel, rfl⟩
theorem d_Cp_mixStacks_39 : decode m_Cp_mixStacks.2.1 39 = .ok (.aload_n 0, 1) ∧ 39 + 1 = 40 := ⟨by decide +kernel, rfl⟩
theorem d_Cp_mixStacks_40 : decode m_Cp_mixStacks.2.1 40 = .ok (.getfield 42, 3) ∧ 40 + 3 = 43 := ⟨by decide +kernel, rfl⟩
theorem d_Cp_mixStacks_43 : decode m_Cp_mixStacks.2.1 43 = .ok (.getfield 180, 3) ∧ 43 + 3 = 46 := ⟨by decide +kernel, rfl⟩
theorem d_Cp_mixStacks_46 : decode m_Cp_mixStacks.2.1 46 = .ok (.iload 5, 2) ∧ 46 + 2 = 48 := ⟨by decide +kernel, rfl⟩
theorem d_Cp_mixStacks_48 : decode m_Cp_mixStacks.2.1 48 = .ok (.iaload, 1) ∧ 48 + 1 = 49 := ⟨by decide +kernel, rfl⟩
theorem d_Cp_mixStacks_49 : decode m_Cp_mixStacks.2.1 49 = .ok (.if_icmp .gt 48, 3) ∧ 49 + 3 = 52 ∧ (((49 : Nat) : Int) + (48) = ((97 : Nat) : Int)) := ⟨by decide +kernel, rfl, by decide⟩
theorem d_Cp_mixStacks_52 : decode m_Cp_mixStacks.2.1 52 = .ok (.iconst 0, 1) ∧ 52 + 1 = 53 := ⟨by decide +kernel, rfl⟩
theorem d_Cp_mixStacks_53 : decode m_Cp_mixStacks.2.1 53 = .ok (.istore 7, 2) ∧ 53 + 2 = 55 := ⟨by decide +kernel, rfl⟩
theorem d_Cp_mixStacks_55 : decode m_Cp_mixStacks.2.1 55 = .ok (.iload 7, 2) ∧ 55 + 2 = 57 := ⟨by decide +kernel, rfl⟩
theorem d_Cp_mixStacks_57 : decode m_Cp_mixStacks.2.1 57 = .ok (.aload_n 0, 1) ∧ 57 + 1 = 58 := ⟨by decide +kernel, rfl⟩
theorem d_Cp_mixStacks_58 : decode m_Cp_mixStacks.2.1 58 = .ok (.getfield 19, 3) ∧ 58 + 3 = 61 := ⟨by decide +kernel, rfl⟩
theorem d_Cp_mixStacks_61 : decode m_Cp_mixStacks.2.1 61 = .ok (.getfield 106, 3) ∧ 61 + 3 = 64 := ⟨by decide +kernel, rfl⟩
theorem d_Cp_mixStacks_64 : decode m_Cp_mixStacks.2.1 64 = .ok (.if_icmp .ge 27, 3) ∧ 64 + 3 = 67 ∧ (((64 : Nat) : Int) + (27) = ((91 : Nat) : Int)) := ⟨by decide +kernel, rfl, by decide⟩
theorem d_Cp_mixStacks_67 : decode m_Cp_mixStacks.2.1 67 = .ok (.lload_n 3, 1) ∧ 67 + 1 = 68 := ⟨by decide +kernel, rfl⟩
theorem d_Cp_mixStacks_68 : decode m_Cp_mixStacks.2.1 68 = .ok (.aload_n 0, 1) ∧ 68 + 1 = 69 := ⟨by decide +kernel, rfl⟩
theorem d_Cp_mixStacks_69 : decode m_Cp_mixStacks.2.1 69 = .ok (.getfield 42, 3) ∧ 69 + 3 = 72 := ⟨by decide +kernel, rfl⟩
theorem d_Cp_mixStacks_72 : decode m_Cp_mixStacks.2.1 72 = .ok (.iload 5, 2) ∧ 72 + 2 = 74 := ⟨by decide +kernel, rfl⟩
theorem d_Cp_mixStacks_74 : decode m_Cp_mixStacks.2.1 74 = .ok (.iload 6, 2) ∧ 74 + 2 = 76 := ⟨by decide +kernel, rfl⟩
theorem d_Cp_mixStacks_76 : decode m_Cp_mixStacks.2.1 76 = .ok (.iload 7, 2) ∧ 76 + 2 = 78 := ⟨by decide +kernel, rfl⟩
theorem d_Cp_mixStacks_78 : decode m_Cp_mixStacks.2.1 78 = .ok (.invokevirtual 188, 3) ∧ 78 + 3 = 81 := ⟨by decide +kernel, rfl⟩
theorem d_Cp_mixStacks_81 : decode m_Cp_mixStacks.2.1 81 = .ok (.invokestatic 263, 3) ∧ 81 + 3 = 84 := ⟨by decide +kernel, rfl⟩
theorem d_Cp_mixStacks_84 : decode m_Cp_mixStacks.2.1 84 = .ok (.lstore_n 3, 1) ∧ 84 + 1 = 85 := ⟨by decide +kernel, rfl⟩
theorem d_Cp_mixStacks_85 : decode m_Cp_mixStacks.2.1 85 = .ok (.iinc 7 1, 3) ∧ 85 + 3 = 88 := ⟨by decide +kernel, rfl⟩
theorem d_Cp_mixStacks_88 : decode m_Cp_mixStacks.2.1 88 = .ok (.goto (-33), 3) ∧ (((88 : Nat) : Int) + (-33) = ((55 : Nat) : Int)) := ⟨by decide +kernel, by decide⟩
theorem d_Cp_mixStacks_91 : decode m_Cp_mixStacks.2.1 91 = .ok (.iinc 6 1, 3) ∧ 91 + 3 = 94 := ⟨by decide +kernel, rfl⟩
theorem d_Cp_mixStacks_94 : decode m_Cp_mixStacks.2.1 94 = .ok (.goto (-57), 3) ∧ (((94 : Nat) : Int) + (-57) = ((37 : Nat) : Int)) := ⟨by decide +kernel, by decide⟩
theorem d_Cp_mixStacks_97 : decode m_Cp_mixStacks.2.1 97 = .ok (.iinc 5 1, 3) ∧ 97 + 3 = 100 := ⟨by decide +kernel, rfl⟩
theorem d_Cp_mixStacks_100 : decode m_Cp_mixStacks.2.1 100 = .ok (.goto (-95), 3) ∧ (((100 : Nat) : Int) + (-95) = ((5 : Nat) : Int)) := ⟨by decide +kernel, by decide⟩
theorem d_Cp_mixStacks_103 : decode m_Cp_mixStacks.2.1 103 = .ok (.lload_n 3, 1) ∧ 103 + 1 = 104 := ⟨by decide +kernel, rfl⟩
theorem d_Cp_mixStacks_104 : decode m_Cp_mixStacks.2.1 104 = .ok (.lreturn, 1) := by decide +kernel
theorem d_Cp_isKind_0 : decode m_Cp_isKind.2.1 0 = .ok (.iload_n 0, 1) ∧ 0 + 1 = 1 := ⟨by decide +kernel, rfl⟩
theorem d_Cp_isKind_1 : decode m_Cp_isKind.2.1 1 = .ok (.ifCond .lt 12, 3) ∧ 1 + 3 = 4 ∧ (((1 : Nat) : Int) + (12) = ((13 : Nat) : Int)) := ⟨by decide +kernel, rfl, by decide⟩
theorem d_Cp_isKind_4 : decode m_Cp_isKind.2.1 4 = .ok (.iload_n 0, 1) ∧ 4 + 1 = 5 := ⟨by decide +kernel, rfl⟩
theorem d_Cp_isKind_5 : decode m_Cp_isKind.2.1 5 = .ok (.iconst 5, 1) ∧ 5 + 1 = 6 := ⟨by decide +kernel, rfl⟩
theorem d_Cp_isKind_6 : decode m_Cp_isKind.2.1 6 = .ok (.if_icmp .ge 7, 3) ∧ 6 + 3 = 9 ∧ (((6 : Nat) : Int) + (7) = ((13 : Nat) : Int)) := ⟨by decide +kernel, rfl, by decide⟩
theorem d_Cp_isKind_9 : decode m_Cp_isKind.2.1 9 = .ok (.iconst 1, 1) ∧ 9 + 1 = 10 := ⟨by decide +kernel, rfl⟩
theorem d_Cp_isKind_10 : decode m_Cp_isKind.2.1 10 = .ok (.goto 4, 3) ∧ (((10 : Nat) : Int) + (4) = ((14 : Nat) : Int)) := ⟨by decide +kernel, by decide⟩
theorem d_Cp_isKind_13 : decode m_Cp_isKind.2.1 13 = .ok (.iconst 0, 1) ∧ 13 + 1 = 14 := ⟨by decide +kernel, rfl⟩
theorem d_Cp_isKind_14 : decode m_Cp_isKind.2.1 14 = .ok (.ireturn, 1) := by decide +kernel
theorem d_Cp_isNear_0 : decode m_Cp_isNear.2.1 0 = .ok (.iload_n 0, 1) ∧ 0 + 1 = 1 := ⟨by decide +kernel, rfl⟩
theorem d_Cp_isNear_1 : decode m_Cp_isNear.2.1 1 = .ok (.bipush (-9), 2) ∧ 1 + 2 = 3 ∧ (Int8.ofInt (-9)).toInt32 = Int32.ofInt (-9) := ⟨by decide +kernel, rfl, by decide +kernel⟩
theorem d_Cp_isNear_3 : decode m_Cp_isNear.2.1 3 = .ok (.if_icmp .lt 13, 3) ∧ 3 + 3 = 6 ∧ (((3 : Nat) : Int) + (13) = ((16 : Nat) : Int)) := ⟨by decide +kernel, rfl, by decide⟩
theorem d_Cp_isNear_6 : decode m_Cp_isNear.2.1 6 = .ok (.iload_n 0, 1) ∧ 6 + 1 = 7 := ⟨by decide +kernel, rfl⟩
theorem d_Cp_isNear_7 : decode m_Cp_isNear.2.1 7 = .ok (.bipush 9, 2) ∧ 7 + 2 = 9 ∧ (Int8.ofInt 9).toInt32 = Int32.ofInt 9 := ⟨by decide +kernel, rfl, by decide +kernel⟩
theorem d_Cp_isNear_9 : decode m_Cp_isNear.2.1 9 = .ok (.if_icmp .gt 7, 3) ∧ 9 + 3 = 12 ∧ (((9 : Nat) : Int) + (7) = ((16 : Nat) : Int)) := ⟨by decide +kernel, rfl, by decide⟩
theorem d_Cp_isNear_12 : decode m_Cp_isNear.2.1 12 = .ok (.iconst 1, 1) ∧ 12 + 1 = 13 := ⟨by decide +kernel, rfl⟩
theorem d_Cp_isNear_13 : decode m_Cp_isNear.2.1 13 = .ok (.goto 4, 3) ∧ (((13 : Nat) : Int) + (4) = ((17 : Nat) : Int)) := ⟨by decide +kernel, by decide⟩
theorem d_Cp_isNear_16 : decode m_Cp_isNear.2.1 16 = .ok (.iconst 0, 1) ∧ 16 + 1 = 17 := ⟨by decide +kernel, rfl⟩
theorem d_Cp_isNear_17 : decode m_Cp_isNear.2.1 17 = .ok (.ireturn, 1) := by decide +kernel
theorem d_Cp_isBit_0 : decode m_Cp_isBit.2.1 0 = .ok (.iload_n 0, 1) ∧ 0 + 1 = 1 := ⟨by decide +kernel, rfl⟩
theorem d_Cp_isBit_1 : decode m_Cp_isBit.2.1 1 = .ok (.ifCond .eq 8, 3) ∧ 1 + 3 = 4 ∧ (((1 : Nat) : Int) + (8) = ((9 : Nat) : Int)) := ⟨by decide +kernel, rfl, by decide⟩
theorem d_Cp_isBit_4 : decode m_Cp_isBit.2.1 4 = .ok (.iload_n 0, 1) ∧ 4 + 1 = 5 := ⟨by decide +kernel, rfl⟩
theorem d_Cp_isBit_5 : decode m_Cp_isBit.2.1 5 = .ok (.iconst 1, 1) ∧ 5 + 1 = 6 := ⟨by decide +kernel, rfl⟩
theorem d_Cp_isBit_6 : decode m_Cp_isBit.2.1 6 = .ok (.if_icmp .ne 7, 3) ∧ 6 + 3 = 9 ∧ (((6 : Nat) : Int) + (7) = ((13 : Nat) : Int)) := ⟨by decide +kernel, rfl, by decide⟩
theorem d_Cp_isBit_9 : decode m_Cp_isBit.2.1 9 = .ok (.iconst 1, 1) ∧ 9 + 1 = 10 := ⟨by decide +kernel, rfl⟩
theorem d_Cp_isBit_10 : decode m_Cp_isBit.2.1 10 = .ok (.goto 4, 3) ∧ (((10 : Nat) : Int) + (4) = ((14 : Nat) : Int)) := ⟨by decide +kernel, by decide⟩
theorem d_Cp_isBit_13 : decode m_Cp_isBit.2.1 13 = .ok (.iconst 0, 1) ∧ 13 + 1 = 14 := ⟨by decide +kernel, rfl⟩
theorem d_Cp_isBit_14 : decode m_Cp_isBit.2.1 14 = .ok (.ireturn, 1) := by decide +kernel
theorem d_Cp_appendCurve_0 : decode m_Cp_appendCurve.2.1 0 = .ok (.aload_n 0, 1) ∧ 0 + 1 = 1 := ⟨by decide +kernel, rfl⟩
theorem d_Cp_appendCurve_1 : decode m_Cp_appendCurve.2.1 1 = .ok (.getfield 19, 3) ∧ 1 + 3 = 4 := ⟨by decide +kernel, rfl⟩
theorem d_Cp_appendCurve_4 : decode m_Cp_appendCurve.2.1 4 = .ok (.iload_n 1, 1) ∧ 4 + 1 = 5 := ⟨by decide +kernel, rfl⟩
theorem d_Cp_appendCurve_5 : decode m_Cp_appendCurve.2.1 5 = .ok (.iload_n 2, 1) ∧ 5 + 1 = 6 := ⟨by decide +kernel, rfl⟩
theorem d_Cp_appendCurve_6 : decode m_Cp_appendCurve.2.1 6 = .ok (.iload_n 3, 1) ∧ 6 + 1 = 7 := ⟨by decide +kernel, rfl⟩
theorem d_Cp_appendCurve_7 : decode m_Cp_appendCurve.2.1 7 = .ok (.aload_n 0, 1) ∧ 7 + 1 = 8 := ⟨by decide +kernel, rfl⟩
theorem d_Cp_appendCurve_8 : decode m_Cp_appendCurve.2.1 8 = .ok (.getfield 88, 3) ∧ 8 + 3 = 11 := ⟨by decide +kernel, rfl⟩
theorem d_Cp_appendCurve_11 : decode m_Cp_appendCurve.2.1 11 = .ok (.invokevirtual 281, 3) ∧ 11 + 3 = 14 := ⟨by decide +kernel, rfl⟩
theorem d_Cp_appendCurve_14 : decode m_Cp_appendCurve.2.1 14 = .ok (.ifCond .eq 13, 3) ∧ 14 + 3 = 17 ∧ (((14 : Nat) : Int) + (13) = ((27 : Nat) : Int)) := ⟨by decide +kernel, rfl, by decide⟩
theorem d_Cp_appendCurve_17 : decode m_Cp_appendCurve.2.1 17 = .ok (.aload_n 0, 1) ∧ 17 + 1 = 18 := ⟨by decide +kernel, rfl⟩
theorem d_Cp_appendCurve_18 : decode m_Cp_appendCurve.2.1 18 = .ok (.dup, 1) ∧ 18 + 1 = 19 := ⟨by decide +kernel, rfl⟩
theorem d_Cp_appendCurve_19 : decode m_Cp_appendCurve.2.1 19 = .ok (.getfield 88, 3) ∧ 19 + 3 = 22 := ⟨by decide +kernel, rfl⟩
theorem d_Cp_appendCurve_22 : decode m_Cp_appendCurve.2.1 22 = .ok (.iconst 1, 1) ∧ 22 + 1 = 23 := ⟨by decide +kernel, rfl⟩
theorem d_Cp_appendCurve_23 : decode m_Cp_appendCurve.2.1 23 = .ok (.iadd, 1) ∧ 23 + 1 = 24 := ⟨by decide +kernel, rfl⟩
theorem d_Cp_appendCurve_24 : decode m_Cp_appendCurve.2.1 24 = .ok (.putfield 88, 3) ∧ 24 + 3 = 27 := ⟨by decide +kernel, rfl⟩
theorem d_Cp_appendCurve_27 : decode m_Cp_appendCurve.2.1 27 = .ok (.return_, 1) := by decide +kernel
theorem d_Cp_isSo_0 : decode m_Cp_isSo.2.1 0 = .ok (.iload_n 1, 1) ∧ 0 + 1 = 1 := ⟨by decide +kernel, rfl⟩
theorem d_Cp_isSo_1 : decode m_Cp_isSo.2.1 1 = .ok (.iconst 1, 1) ∧ 1 + 1 = 2 := ⟨by decide +kernel, rfl⟩
theorem d_Cp_isSo_2 : decode m_Cp_isSo.2.1 2 = .ok (.if_icmp .ne 7, 3) ∧ 2 + 3 = 5 ∧ (((2 : Nat) : Int) + (7) = ((9 : Nat) : Int)) := ⟨by decide +kernel, rfl, by decide⟩
theorem d_Cp_isSo_5 : decode m_Cp_isSo.2.1 5 = .ok (.iconst 1, 1) ∧ 5 + 1 = 6 := ⟨by decide +kernel, rfl⟩
theorem d_Cp_isSo_6 : decode m_Cp_isSo.2.1 6 = .ok (.goto 4, 3) ∧ (((6 : Nat) : Int) + (4) = ((10 : Nat) : Int)) := ⟨by decide +kernel, by decide⟩
theorem d_Cp_isSo_9 : decode m_Cp_isSo.2.1 9 = .ok (.iconst 0, 1) ∧ 9 + 1 = 10 := ⟨by decide +kernel, rfl⟩
theorem d_Cp_isSo_10 : decode m_Cp_isSo.2.1 10 = .ok (.istore_n 3, 1) ∧ 10 + 1 = 11 := ⟨by decide +kernel, rfl⟩
theorem d_Cp_isSo_11 : decode m_Cp_isSo.2.1 11 = .ok (.iconst 0, 1) ∧ 11 + 1 = 12 := ⟨by decide +kernel, rfl⟩
theorem d_Cp_isSo_12 : decode m_Cp_isSo.2.1 12 = .ok (.istore 4, 2) ∧ 12 + 2 = 14 := ⟨by decide +kernel, rfl⟩
theorem d_Cp_isSo_14 : decode m_Cp_isSo.2.1 14 = .ok (.iload 4, 2) ∧ 14 + 2 = 16 := ⟨by decide +kernel, rfl⟩
theorem d_Cp_isSo_16 : decode m_Cp_isSo.2.1 16 = .ok (.aload_n 0, 1) ∧ 16 + 1 = 17 := ⟨by decide +kernel, rfl⟩
theorem d_Cp_isSo_17 : decode m_Cp_isSo.2.1 17 = .ok (.getfield 42, 3) ∧ 17 + 3 = 20 := ⟨by decide +kernel, rfl⟩
theorem d_Cp_isSo_20 : decode m_Cp_isSo.2.1 20 = .ok (.getfield 244, 3) ∧ 20 + 3 = 23 := ⟨by decide +kernel, rfl⟩
theorem d_Cp_isSo_23 : decode m_Cp_isSo.2.1 23 = .ok (.if_icmp .ge 30, 3) ∧ 23 + 3 = 26 ∧ (((23 : Nat) : Int) + (30) = ((53 : Nat) : Int)) := ⟨by decide +kernel, rfl, by decide⟩
theorem d_Cp_isSo_26 : decode m_Cp_isSo.2.1 26 = .ok (.aload_n 0, 1) ∧ 26 + 1 = 27 := ⟨by decide +kernel, rfl⟩
theorem d_Cp_isSo_27 : decode m_Cp_isSo.2.1 27 = .ok (.iload 4, 2) ∧ 27 + 2 = 29 := ⟨by decide +kernel, rfl⟩
theorem d_Cp_isSo_29 : decode m_Cp_isSo.2.1 29 = .ok (.iload_n 2, 1) ∧ 29 + 1 = 30 := ⟨by decide +kernel, rfl⟩
theorem d_Cp_isSo_30 : decode m_Cp_isSo.2.1 30 = .ok (.invokevirtual 282, 3) ∧ 30 + 3 = 33 := ⟨by decide +kernel, rfl⟩
theorem d_Cp_isSo_33 : decode m_Cp_isSo.2.1 33 = .ok (.iload_n 3, 1) ∧ 33 + 1 = 34 := ⟨by decide +kernel, rfl⟩
theorem d_Cp_isSo_34 : decode m_Cp_isSo.2.1 34 = .ok (.if_icmp .eq 13, 3) ∧ 34 + 3 = 37 ∧ (((34 : Nat) : Int) + (13) = ((47 : Nat) : Int)) := ⟨by decide +kernel, rfl, by decide⟩
theorem d_Cp_isSo_37 : decode m_Cp_isSo.2.1 37 = .ok (.iload_n 3, 1) ∧ 37 + 1 = 38 := ⟨by decide +kernel, rfl⟩
theorem d_Cp_isSo_38 : decode m_Cp_isSo.2.1 38 = .ok (.ifCond .ne 7, 3) ∧ 38 + 3 = 41 ∧ (((38 : Nat) : Int) + (7) = ((45 : Nat) : Int)) := ⟨by decide +kernel, rfl, by decide⟩
theorem d_Cp_isSo_41 : decode m_Cp_isSo.2.1 41 = .ok (.iconst 1, 1) ∧ 41 + 1 = 42 := ⟨by decide +kernel, rfl⟩
theorem d_Cp_isSo_42 : decode m_Cp_isSo.2.1 42 = .ok (.goto 4, 3) ∧ (((42 : Nat) : Int) + (4) = ((46 : Nat) : Int)) := ⟨by decide +kernel, by decide⟩
theorem d_Cp_isSo_45 : decode m_Cp_isSo.2.1 45 = .ok (.iconst 0, 1) ∧ 45 + 1 = 46 := ⟨by decide +kernel, rfl⟩
theorem d_Cp_isSo_46 : decode m_Cp_isSo.2.1 46 = .ok (.ireturn, 1) := by decide +kernel
theorem d_Cp_isSo_47 : decode m_Cp_isSo.2.1 47 = .ok (.iinc 4 1, 3) ∧ 47 + 3 = 50 := ⟨by decide +kernel, rfl⟩
theorem d_Cp_isSo_50 : decode m_Cp_isSo.2.1 50 = .ok (.goto (-36), 3) ∧ (((50 : Nat) : Int) + (-36) = ((14 : Nat) : Int)) := ⟨by decide +kernel, by decide⟩
theorem d_Cp_isSo_53 : decode m_Cp_isSo.2.1 53 = .ok (.iload_n 3, 1) ∧ 53 + 1 = 54 := ⟨by decide +kernel, rfl⟩
theorem d_Cp_isSo_54 : decode m_Cp_isSo.2.1 54 = .ok (.ireturn, 1) := by decide +kernel
theorem d_Cp_isSoOver_0 : decode m_Cp_isSoOver.2.1 0 = .ok (.iload_n 2, 1) ∧ 0 + 1 = 1 := ⟨by decide +kernel, rfl⟩
theorem d_Cp_isSoOver_1 : decode m_Cp_isSoOver.2.1 1 = .ok (.iconst 1, 1) ∧ 1 + 1 = 2 := ⟨by decide +kernel, rfl⟩
theorem d_Cp_isSoOver_2 : decode m_Cp_isSoOver.2.1 2 = .ok (.if_icmp .ne 7, 3) ∧ 2 + 3 = 5 ∧ (((2 : Nat) : Int) + (7) = ((9 : Nat) : Int)) := ⟨by decide +kernel, rfl, by decide⟩
theorem d_Cp_isSoOver_5 : decode m_Cp_isSoOver.2.1 5 = .ok (.iconst 1, 1) ∧ 5 + 1 = 6 := ⟨by decide +kernel, rfl⟩
theorem d_Cp_isSoOver_6 : decode m_Cp_isSoOver.2.1 6 = .ok (.goto 4, 3) ∧ (((6 : Nat) : Int) + (4) = ((10 : Nat) : Int)) := ⟨by decide +kernel, by decide⟩
theorem d_Cp_isSoOver_9 : decode m_Cp_isSoOver.2.1 9 = .ok (.iconst 0, 1) ∧ 9 + 1 = 10 := ⟨by decide +kernel, rfl⟩
theorem d_Cp_isSoOver_10 : decode m_Cp_isSoOver.2.1 10 = .ok (.istore_n 3, 1) ∧ 10 + 1 = 11 := ⟨by decide +kernel, rfl⟩
theorem d_Cp_isSoOver_11 : decode m_Cp_isSoOver.2.1 11 = .ok (.iconst 0, 1) ∧ 11 + 1 = 12 := ⟨by decide +kernel, rfl⟩
theorem d_Cp_isSoOver_12 : decode m_Cp_isSoOver.2.1 12 = .ok (.istore 4, 2) ∧ 12 + 2 = 14 := ⟨by decide +kernel, rfl⟩
theorem d_Cp_isSoOver_14 : decode m_Cp_isSoOver.2.1 14 = .ok (.iload 4, 2) ∧ 14 + 2 = 16 := ⟨by decide +kernel, rfl⟩
theorem d_Cp_isSoOver_16 : decode m_Cp_isSoOver.2.1 16 = .ok (.aload_n 0, 1) ∧ 16 + 1 = 17 := ⟨by decide +kernel, rfl⟩
theorem d_Cp_isSoOver_17 : decode m_Cp_isSoOver.2.1 17 = .ok (.getfield 42, 3) ∧ 17 + 3 = 20 := ⟨by decide +kernel, rfl⟩
theorem d_Cp_isSoOver_20 : decode m_Cp_isSoOver.2.1 20 = .ok (.getfield 180, 3) ∧ 20 + 3 = 23 := ⟨by decide +kernel, rfl⟩
theorem d_Cp_isSoOver_23 : decode m_Cp_isSoOver.2.1 23 = .ok (.iload_n 1, 1) ∧ 23 + 1 = 24 := ⟨by decide +kernel, rfl⟩
theorem d_Cp_isSoOver_24 : decode m_Cp_isSoOver.2.1 24 = .ok (.iaload, 1) ∧ 24 + 1 = 25 := ⟨by decide +kernel, rfl⟩
theorem d_Cp_isSoOver_25 : decode m_Cp_isSoOver.2.1 25 = .ok (.if_icmp .gt 37, 3) ∧ 25 + 3 = 28 ∧ (((25 : Nat) : Int) + (37) = ((62 : Nat) : Int)) := ⟨by decide +kernel, rfl, by decide⟩
theorem d_Cp_isSoOver_28 : decode m_Cp_isSoOver.2.1 28 = .ok (.aload_n 0, 1) ∧ 28 + 1 = 29 := ⟨by decide +kernel, rfl⟩
theorem d_Cp_isSoOver_29 : decode m_Cp_isSoOver.2.1 29 = .ok (.getfield 52, 3) ∧ 29 + 3 = 32 := ⟨by decide +kernel, rfl⟩
theorem d_Cp_isSoOver_32 : decode m_Cp_isSoOver.2.1 32 = .ok (.aload_n 0, 1) ∧ 32 + 1 = 33 := ⟨by decide +kernel, rfl⟩
theorem d_Cp_isSoOver_33 : decode m_Cp_isSoOver.2.1 33 = .ok (.getfield 42, 3) ∧ 33 + 3 = 36 := ⟨by decide +kernel, rfl⟩
theorem d_Cp_isSoOver_36 : decode m_Cp_isSoOver.2.1 36 = .ok (.iload_n 1, 1) ∧ 36 + 1 = 37 := ⟨by decide +kernel, rfl⟩
theorem d_Cp_isSoOver_37 : decode m_Cp_isSoOver.2.1 37 = .ok (.iload 4, 2) ∧ 37 + 2 = 39 := ⟨by decide +kernel, rfl⟩
theorem d_Cp_isSoOver_39 : decode m_Cp_isSoOver.2.1 39 = .ok (.invokevirtual 285, 3) ∧ 39 + 3 = 42 := ⟨by decide +kernel, rfl⟩
theorem d_Cp_isSoOver_42 : decode m_Cp_isSoOver.2.1 42 = .ok (.iload_n 3, 1) ∧ 42 + 1 = 43 := ⟨by decide +kernel, rfl⟩
theorem d_Cp_isSoOver_43 : decode m_Cp_isSoOver.2.1 43 = .ok (.if_icmp .eq 13, 3) ∧ 43 + 3 = 46 ∧ (((43 : Nat) : Int) + (13) = ((56 : Nat) : Int)) := ⟨by decide +kernel, rfl, by decide⟩
theorem d_Cp_isSoOver_46 : decode m_Cp_isSoOver.2.1 46 = .ok (.iload_n 3, 1) ∧ 46 + 1 = 47 := ⟨by decide +kernel, rfl⟩
theorem d_Cp_isSoOver_47 : decode m_Cp_isSoOver.2.1 47 = .ok (.ifCond .ne 7, 3) ∧ 47 + 3 = 50 ∧ (((47 : Nat) : Int) + (7) = ((54 : Nat) : Int)) := ⟨by decide +kernel, rfl, by decide⟩
theorem d_Cp_isSoOver_50 : decode m_Cp_isSoOver.2.1 50 = .ok (.iconst 1, 1) ∧ 50 + 1 = 51 := ⟨by decide +kernel, rfl⟩
theorem d_Cp_isSoOver_51 : decode m_Cp_isSoOver.2.1 51 = .ok (.goto 4, 3) ∧ (((51 : Nat) : Int) + (4) = ((55 : Nat) : Int)) := ⟨by decide +kernel, by decide⟩
theorem d_Cp_isSoOver_54 : decode m_Cp_isSoOver.2.1 54 = .ok (.iconst 0, 1) ∧ 54 + 1 = 55 := ⟨by decide +kernel, rfl⟩
theorem d_Cp_isSoOver_55 : decode m_Cp_isSoOver.2.1 55 = .ok (.ireturn, 1) := by decide +kernel
theorem d_Cp_isSoOver_56 : decode m_Cp_isSoOver.2.1 56 = .ok (.iinc 4 1, 3) ∧ 56 + 3 = 59 := ⟨by decide +kernel, rfl⟩
theorem d_Cp_isSoOver_59 : decode m_Cp_isSoOver.2.1 59 = .ok (.goto (-45), 3) ∧ (((59 : Nat) : Int) + (-45) = ((14 : Nat) : Int)) := ⟨by decide +kernel, by decide⟩
theorem d_Cp_isSoOver_62 : decode m_Cp_isSoOver.2.1 62 = .ok (.iload_n 3, 1) ∧ 62 + 1 = 63 := ⟨by decide +kernel, rfl⟩
theorem d_Cp_isSoOver_63 : decode m_Cp_isSoOver.2.1 63 = .ok (.ireturn, 1) := by decide +kernel
