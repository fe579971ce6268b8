theorem d_Mo_init_0 : decode m_Mo_init.2.1 0 = .ok (.aload_n 0, 1) ∧ 0 + 1 = 1 := ⟨by decide +kernel, rfl⟩
theorem d_Mo_init_1 : decode m_Mo_init.2.1 1 = .ok (.invokespecial 1, 3) ∧ 1 + 3 = 4 := ⟨by decide +kernel, rfl⟩
theorem d_Mo_init_4 : decode m_Mo_init.2.1 4 = .ok (.aload_n 0, 1) ∧ 4 + 1 = 5 := ⟨by decide +kernel, rfl⟩
theorem d_Mo_init_5 : decode m_Mo_init.2.1 5 = .ok (.bipush 24, 2) ∧ 5 + 2 = 7 ∧ (Int8.ofInt 24).toInt32 = Int32.ofInt 24 := ⟨by decide +kernel, rfl, by decide +kernel⟩
theorem d_Mo_init_7 : decode m_Mo_init.2.1 7 = .ok (.newarray .int, 2) ∧ 7 + 2 = 9 := ⟨by decide +kernel, rfl⟩
theorem d_Mo_init_9 : decode m_Mo_init.2.1 9 = .ok (.putfield 7, 3) ∧ 9 + 3 = 12 := ⟨by decide +kernel, rfl⟩
theorem d_Mo_init_12 : decode m_Mo_init.2.1 12 = .ok (.aload_n 0, 1) ∧ 12 + 1 = 13 := ⟨by decide +kernel, rfl⟩
theorem d_Mo_init_13 : decode m_Mo_init.2.1 13 = .ok (.iconst 4, 1) ∧ 13 + 1 = 14 := ⟨by decide +kernel, rfl⟩
theorem d_Mo_init_14 : decode m_Mo_init.2.1 14 = .ok (.newarray .int, 2) ∧ 14 + 2 = 16 := ⟨by decide +kernel, rfl⟩
theorem d_Mo_init_16 : decode m_Mo_init.2.1 16 = .ok (.putfield 13, 3) ∧ 16 + 3 = 19 := ⟨by decide +kernel, rfl⟩
theorem d_Mo_init_19 : decode m_Mo_init.2.1 19 = .ok (.aload_n 0, 1) ∧ 19 + 1 = 20 := ⟨by decide +kernel, rfl⟩
theorem d_Mo_init_20 : decode m_Mo_init.2.1 20 = .ok (.iconst 4, 1) ∧ 20 + 1 = 21 := ⟨by decide +kernel, rfl⟩
theorem d_Mo_init_21 : decode m_Mo_init.2.1 21 = .ok (.newarray .int, 2) ∧ 21 + 2 = 23 := ⟨by decide +kernel, rfl⟩
theorem d_Mo_init_23 : decode m_Mo_init.2.1 23 = .ok (.putfield 16, 3) ∧ 23 + 3 = 26 := ⟨by decide +kernel, rfl⟩
theorem d_Mo_init_26 : decode m_Mo_init.2.1 26 = .ok (.aload_n 0, 1) ∧ 26 + 1 = 27 := ⟨by decide +kernel, rfl⟩
theorem d_Mo_init_27 : decode m_Mo_init.2.1 27 = .ok (.iconst 4, 1) ∧ 27 + 1 = 28 := ⟨by decide +kernel, rfl⟩
theorem d_Mo_init_28 : decode m_Mo_init.2.1 28 = .ok (.newarray .int, 2) ∧ 28 + 2 = 30 := ⟨by decide +kernel, rfl⟩
theorem d_Mo_init_30 : decode m_Mo_init.2.1 30 = .ok (.putfield 19, 3) ∧ 30 + 3 = 33 := ⟨by decide +kernel, rfl⟩
theorem d_Mo_init_33 : decode m_Mo_init.2.1 33 = .ok (.aload_n 0, 1) ∧ 33 + 1 = 34 := ⟨by decide +kernel, rfl⟩
theorem d_Mo_init_34 : decode m_Mo_init.2.1 34 = .ok (.iconst 4, 1) ∧ 34 + 1 = 35 := ⟨by decide +kernel, rfl⟩
theorem d_Mo_init_35 : decode m_Mo_init.2.1 35 = .ok (.newarray .int, 2) ∧ 35 + 2 = 37 := ⟨by decide +kernel, rfl⟩
theorem d_Mo_init_37 : decode m_Mo_init.2.1 37 = .ok (.putfield 22, 3) ∧ 37 + 3 = 40 := ⟨by decide +kernel, rfl⟩
theorem d_Mo_init_40 : decode m_Mo_init.2.1 40 = .ok (.aload_n 0, 1) ∧ 40 + 1 = 41 := ⟨by decide +kernel, rfl⟩
theorem d_Mo_init_41 : decode m_Mo_init.2.1 41 = .ok (.bipush 64, 2) ∧ 41 + 2 = 43 ∧ (Int8.ofInt 64).toInt32 = Int32.ofInt 64 := ⟨by decide +kernel, rfl, by decide +kernel⟩
theorem d_Mo_init_43 : decode m_Mo_init.2.1 43 = .ok (.newarray .long, 2) ∧ 43 + 2 = 45 := ⟨by decide +kernel, rfl⟩
theorem d_Mo_init_45 : decode m_Mo_init.2.1 45 = .ok (.putfield 25, 3) ∧ 45 + 3 = 48 := ⟨by decide +kernel, rfl⟩
theorem d_Mo_init_48 : decode m_Mo_init.2.1 48 = .ok (.aload_n 0, 1) ∧ 48 + 1 = 49 := ⟨by decide +kernel, rfl⟩
theorem d_Mo_init_49 : decode m_Mo_init.2.1 49 = .ok (.bipush 64, 2) ∧ 49 + 2 = 51 ∧ (Int8.ofInt 64).toInt32 = Int32.ofInt 64 := ⟨by decide +kernel, rfl, by decide +kernel⟩
theorem d_Mo_init_51 : decode m_Mo_init.2.1 51 = .ok (.newarray .long, 2) ∧ 51 + 2 = 53 := ⟨by decide +kernel, rfl⟩
theorem d_Mo_init_53 : decode m_Mo_init.2.1 53 = .ok (.putfield 29, 3) ∧ 53 + 3 = 56 := ⟨by decide +kernel, rfl⟩
theorem d_Mo_init_56 : decode m_Mo_init.2.1 56 = .ok (.aload_n 0, 1) ∧ 56 + 1 = 57 := ⟨by decide +kernel, rfl⟩
theorem d_Mo_init_57 : decode m_Mo_init.2.1 57 = .ok (.bipush 64, 2) ∧ 57 + 2 = 59 ∧ (Int8.ofInt 64).toInt32 = Int32.ofInt 64 := ⟨by decide +kernel, rfl, by decide +kernel⟩
theorem d_Mo_init_59 : decode m_Mo_init.2.1 59 = .ok (.newarray .long, 2) ∧ 59 + 2 = 61 := ⟨by decide +kernel, rfl⟩
theorem d_Mo_init_61 : decode m_Mo_init.2.1 61 = .ok (.putfield 32, 3) ∧ 61 + 3 = 64 := ⟨by decide +kernel, rfl⟩
theorem d_Mo_init_64 : decode m_Mo_init.2.1 64 = .ok (.aload_n 0, 1) ∧ 64 + 1 = 65 := ⟨by decide +kernel, rfl⟩
theorem d_Mo_init_65 : decode m_Mo_init.2.1 65 = .ok (.bipush 64, 2) ∧ 65 + 2 = 67 ∧ (Int8.ofInt 64).toInt32 = Int32.ofInt 64 := ⟨by decide +kernel, rfl, by decide +kernel⟩
theorem d_Mo_init_67 : decode m_Mo_init.2.1 67 = .ok (.newarray .long, 2) ∧ 67 + 2 = 69 := ⟨by decide +kernel, rfl⟩
theorem d_Mo_init_69 : decode m_Mo_init.2.1 69 = .ok (.putfield 35, 3) ∧ 69 + 3 = 72 := ⟨by decide +kernel, rfl⟩
theorem d_Mo_init_72 : decode m_Mo_init.2.1 72 = .ok (.aload_n 0, 1) ∧ 72 + 1 = 73 := ⟨by decide +kernel, rfl⟩
theorem d_Mo_init_73 : decode m_Mo_init.2.1 73 = .ok (.sipush 160, 3) ∧ 73 + 3 = 76 ∧ (Int16.ofInt 160).toInt32 = Int32.ofInt 160 := ⟨by decide +kernel, rfl, by decide +kernel⟩
theorem d_Mo_init_76 : decode m_Mo_init.2.1 76 = .ok (.newarray .int, 2) ∧ 76 + 2 = 78 := ⟨by decide +kernel, rfl⟩
theorem d_Mo_init_78 : decode m_Mo_init.2.1 78 = .ok (.putfield 38, 3) ∧ 78 + 3 = 81 := ⟨by decide +kernel, rfl⟩
theorem d_Mo_init_81 : decode m_Mo_init.2.1 81 = .ok (.aload_n 0, 1) ∧ 81 + 1 = 82 := ⟨by decide +kernel, rfl⟩
theorem d_Mo_init_82 : decode m_Mo_init.2.1 82 = .ok (.bipush 40, 2) ∧ 82 + 2 = 84 ∧ (Int8.ofInt 40).toInt32 = Int32.ofInt 40 := ⟨by decide +kernel, rfl, by decide +kernel⟩
theorem d_Mo_init_84 : decode m_Mo_init.2.1 84 = .ok (.newarray .int, 2) ∧ 84 + 2 = 86 := ⟨by decide +kernel, rfl⟩
theorem d_Mo_init_86 : decode m_Mo_init.2.1 86 = .ok (.putfield 41, 3) ∧ 86 + 3 = 89 := ⟨by decide +kernel, rfl⟩
theorem d_Mo_init_89 : decode m_Mo_init.2.1 89 = .ok (.aload_n 0, 1) ∧ 89 + 1 = 90 := ⟨by decide +kernel, rfl⟩
theorem d_Mo_init_90 : decode m_Mo_init.2.1 90 = .ok (.bipush 8, 2) ∧ 90 + 2 = 92 ∧ (Int8.ofInt 8).toInt32 = Int32.ofInt 8 := ⟨by decide +kernel, rfl, by decide +kernel⟩
theorem d_Mo_init_92 : decode m_Mo_init.2.1 92 = .ok (.newarray .int, 2) ∧ 92 + 2 = 94 := ⟨by decide +kernel, rfl⟩
theorem d_Mo_init_94 : decode m_Mo_init.2.1 94 = .ok (.putfield 44, 3) ∧ 94 + 3 = 97 := ⟨by decide +kernel, rfl⟩
theorem d_Mo_init_97 : decode m_Mo_init.2.1 97 = .ok (.aload_n 0, 1) ∧ 97 + 1 = 98 := ⟨by decide +kernel, rfl⟩
theorem d_Mo_init_98 : decode m_Mo_init.2.1 98 = .ok (.sipush 360, 3) ∧ 98 + 3 = 101 ∧ (Int16.ofInt 360).toInt32 = Int32.ofInt 360 := ⟨by decide +kernel, rfl, by decide +kernel⟩
theorem d_Mo_init_101 : decode m_Mo_init.2.1 101 = .ok (.newarray .int, 2) ∧ 101 + 2 = 103 := ⟨by decide +kernel, rfl⟩
theorem d_Mo_init_103 : decode m_Mo_init.2.1 103 = .ok (.putfield 47, 3) ∧ 103 + 3 = 106 := ⟨by decide +kernel, rfl⟩
theorem d_Mo_init_106 : decode m_Mo_init.2.1 106 = .ok (.aload_n 0, 1) ∧ 106 + 1 = 107 := ⟨by decide +kernel, rfl⟩
theorem d_Mo_init_107 : decode m_Mo_init.2.1 107 = .ok (.bipush 24, 2) ∧ 107 + 2 = 109 ∧ (Int8.ofInt 24).toInt32 = Int32.ofInt 24 := ⟨by decide +kernel, rfl, by decide +kernel⟩
theorem d_Mo_init_109 : decode m_Mo_init.2.1 109 = .ok (.newarray .int, 2) ∧ 109 + 2 = 111 := ⟨by decide +kernel, rfl⟩
theorem d_Mo_init_111 : decode m_Mo_init.2.1 111 = .ok (.putfield 50, 3) ∧ 111 + 3 = 114 := ⟨by decide +kernel, rfl⟩
theorem d_Mo_init_114 : decode m_Mo_init.2.1 114 = .ok (.aload_n 0, 1) ∧ 114 + 1 = 115 := ⟨by decide +kernel, rfl⟩
theorem d_Mo_init_115 : decode m_Mo_init.2.1 115 = .ok (.iconst 4, 1) ∧ 115 + 1 = 116 := ⟨by decide +kernel, rfl⟩
theorem d_Mo_init_116 : decode m_Mo_init.2.1 116 = .ok (.newarray .int, 2) ∧ 116 + 2 = 118 := ⟨by decide +kernel, rfl⟩
theorem d_Mo_init_118 : decode m_Mo_init.2.1 118 = .ok (.putfield 53, 3) ∧ 118 + 3 = 121 := ⟨by decide +kernel, rfl⟩
theorem d_Mo_init_121 : decode m_Mo_init.2.1 121 = .ok (.aload_n 0, 1) ∧ 121 + 1 = 122 := ⟨by decide +kernel, rfl⟩
theorem d_Mo_init_122 : decode m_Mo_init.2.1 122 = .ok (.iconst 4, 1) ∧ 122 + 1 = 123 := ⟨by decide +kernel, rfl⟩
theorem d_Mo_init_123 : decode m_Mo_init.2.1 123 = .ok (.newarray .int, 2) ∧ 123 + 2 = 125 := ⟨by decide +kernel, rfl⟩
theorem d_Mo_init_125 : decode m_Mo_init.2.1 125 = .ok (.putfield 56, 3) ∧ 125 + 3 = 128 := ⟨by decide +kernel, rfl⟩
theorem d_Mo_init_128 : decode m_Mo_init.2.1 128 = .ok (.aload_n 0, 1) ∧ 128 + 1 = 129 := ⟨by decide +kernel, rfl⟩
theorem d_Mo_init_129 : decode m_Mo_init.2.1 129 = .ok (.iconst 4, 1) ∧ 129 + 1 = 130 := ⟨by decide +kernel, rfl⟩
theorem d_Mo_init_130 : decode m_Mo_init.2.1 130 = .ok (.newarray .int, 2) ∧ 130 + 2 = 132 := ⟨by decide +kernel, rfl⟩
theorem d_Mo_init_132 : decode m_Mo_init.2.1 132 = .ok (.putfield 59, 3) ∧ 132 + 3 = 135 := ⟨by decide +kernel, rfl⟩
theorem d_Mo_init_135 : decode m_Mo_init.2.1 135 = .ok (.aload_n 0, 1) ∧ 135 + 1 = 136 := ⟨by decide +kernel, rfl⟩
theorem d_Mo_init_136 : decode m_Mo_init.2.1 136 = .ok (.iconst 4, 1) ∧ 136 + 1 = 137 := ⟨by decide +kernel, rfl⟩
theorem d_Mo_init_137 : decode m_Mo_init.2.1 137 = .ok (.newarray .int, 2) ∧ 137 + 2 = 139 := ⟨by decide +kernel, rfl⟩
theorem d_Mo_init_139 : decode m_Mo_init.2.1 139 = .ok (.putfield 62, 3) ∧ 139 + 3 = 142 := ⟨by decide +kernel, rfl⟩
theorem d_Mo_init_142 : decode m_Mo_init.2.1 142 = .ok (.aload_n 0, 1) ∧ 142 + 1 = 143 := ⟨by decide +kernel, rfl⟩
theorem d_Mo_init_143 : decode m_Mo_init.2.1 143 = .ok (.bipush 24, 2) ∧ 143 + 2 = 145 ∧ (Int8.ofInt 24).toInt32 = Int32.ofInt 24 := ⟨by decide +kernel, rfl, by decide +kernel⟩
theorem d_Mo_init_145 : decode m_Mo_init.2.1 145 = .ok (.newarray .int, 2) ∧ 145 + 2 = 147 := ⟨by decide +kernel, rfl⟩
theorem d_Mo_init_147 : decode m_Mo_init.2.1 147 = .ok (.putfield 65, 3) ∧ 147 + 3 = 150 := ⟨by decide +kernel, rfl⟩
theorem d_Mo_init_150 : decode m_Mo_init.2.1 150 = .ok (.aload_n 0, 1) ∧ 150 + 1 = 151 := ⟨by decide +kernel, rfl⟩
theorem d_Mo_init_151 : decode m_Mo_init.2.1 151 = .ok (.iconst (-1), 1) ∧ 151 + 1 = 152 := ⟨by decide +kernel, rfl⟩
theorem d_Mo_init_152 : decode m_Mo_init.2.1 152 = .ok (.putfield 68, 3) ∧ 152 + 3 = 155 := ⟨by decide +kernel, rfl⟩
theorem d_Mo_init_155 : decode m_Mo_init.2.1 155 = .ok (.aload_n 0, 1) ∧ 155 + 1 = 156 := ⟨by decide +kernel, rfl⟩
theorem d_Mo_init_156 : decode m_Mo_init.2.1 156 = .ok (.iconst 1, 1) ∧ 156 + 1 = 157 := ⟨by decide +kernel, rfl⟩
theorem d_Mo_init_157 : decode m_Mo_init.2.1 157 = .ok (.putfield 72, 3) ∧ 157 + 3 = 160 := ⟨by decide +kernel, rfl⟩
theorem d_Mo_init_160 : decode m_Mo_init.2.1 160 = .ok (.aload_n 0, 1) ∧ 160 + 1 = 161 := ⟨by decide +kernel, rfl⟩
theorem d_Mo_init_161 : decode m_Mo_init.2.1 161 = .ok (.iconst 1, 1) ∧ 161 + 1 = 162 := ⟨by decide +kernel, rfl⟩
theorem d_Mo_init_162 : decode m_Mo_init.2.1 162 = .ok (.putfield 75, 3) ∧ 162 + 3 = 165 := ⟨by decide +kernel, rfl⟩
theorem d_Mo_init_165 : decode m_Mo_init.2.1 165 = .ok (.return_, 1) := by decide +kernel
theorem d_Mo_in_0 : decode m_Mo_in.2.1 0 = .ok (.lload_n 0, 1) ∧ 0 + 1 = 1 := ⟨by decide +kernel, rfl⟩
theorem d_Mo_in_1 : decode m_Mo_in.2.1 1 = .ok (.lload_n 2, 1) ∧ 1 + 1 = 2 := ⟨by decide +kernel, rfl⟩
theorem d_Mo_in_2 : decode m_Mo_in.2.1 2 = .ok (.lcmp, 1) ∧ 2 + 1 = 3 := ⟨by decide +kernel, rfl⟩
theorem d_Mo_in_3 : decode m_Mo_in.2.1 3 = .ok (.ifCond .lt 14, 3) ∧ 3 + 3 = 6 ∧ (((3 : Nat) : Int) + (14) = ((17 : Nat) : Int)) := ⟨by decide +kernel, rfl, by decide⟩
theorem d_Mo_in_6 : decode m_Mo_in.2.1 6 = .ok (.lload_n 0, 1) ∧ 6 + 1 = 7 := ⟨by decide +kernel, rfl⟩
theorem d_Mo_in_7 : decode m_Mo_in.2.1 7 = .ok (.lload 4, 2) ∧ 7 + 2 = 9 := ⟨by decide +kernel, rfl⟩
theorem d_Mo_in_9 : decode m_Mo_in.2.1 9 = .ok (.lcmp, 1) ∧ 9 + 1 = 10 := ⟨by decide +kernel, rfl⟩
theorem d_Mo_in_10 : decode m_Mo_in.2.1 10 = .ok (.ifCond .gt 7, 3) ∧ 10 + 3 = 13 ∧ (((10 : Nat) : Int) + (7) = ((17 : Nat) : Int)) := ⟨by decide +kernel, rfl, by decide⟩
theorem d_Mo_in_13 : decode m_Mo_in.2.1 13 = .ok (.iconst 1, 1) ∧ 13 + 1 = 14 := ⟨by decide +kernel, rfl⟩
theorem d_Mo_in_14 : decode m_Mo_in.2.1 14 = .ok (.goto 4, 3) ∧ (((14 : Nat) : Int) + (4) = ((18 : Nat) : Int)) := ⟨by decide +kernel, by decide⟩
theorem d_Mo_in_17 : decode m_Mo_in.2.1 17 = .ok (.iconst 0, 1) ∧ 17 + 1 = 18 := ⟨by decide +kernel, rfl⟩
theorem d_Mo_in_18 : decode m_Mo_in.2.1 18 = .ok (.ireturn, 1) := by decide +kernel
theorem d_Mo_copy_0 : decode m_Mo_copy.2.1 0 = .ok (.iconst 0, 1) ∧ 0 + 1 = 1 := ⟨by decide +kernel, rfl⟩
theorem d_Mo_copy_1 : decode m_Mo_copy.2.1 1 = .ok (.istore_n 2, 1) ∧ 1 + 1 = 2 := ⟨by decide +kernel, rfl⟩
theorem d_Mo_copy_2 : decode m_Mo_copy.2.1 2 = .ok (.iload_n 2, 1) ∧ 2 + 1 = 3 := ⟨by decide +kernel, rfl⟩
theorem d_Mo_copy_3 : decode m_Mo_copy.2.1 3 = .ok (.aload_n 0, 1) ∧ 3 + 1 = 4 := ⟨by decide +kernel, rfl⟩
theorem d_Mo_copy_4 : decode m_Mo_copy.2.1 4 = .ok (.arraylength, 1) ∧ 4 + 1 = 5 := ⟨by decide +kernel, rfl⟩
theorem d_Mo_copy_5 : decode m_Mo_copy.2.1 5 = .ok (.if_icmp .ge 15, 3) ∧ 5 + 3 = 8 ∧ (((5 : Nat) : Int) + (15) = ((20 : Nat) : Int)) := ⟨by decide +kernel, rfl, by decide⟩
theorem d_Mo_copy_8 : decode m_Mo_copy.2.1 8 = .ok (.aload_n 1, 1) ∧ 8 + 1 = 9 := ⟨by decide +kernel, rfl⟩
theorem d_Mo_copy_9 : decode m_Mo_copy.2.1 9 = .ok (.iload_n 2, 1) ∧ 9 + 1 = 10 := ⟨by decide +kernel, rfl⟩
theorem d_Mo_copy_10 : decode m_Mo_copy.2.1 10 = .ok (.aload_n 0, 1) ∧ 10 + 1 = 11 := ⟨by decide +kernel, rfl⟩
theorem d_Mo_copy_11 : decode m_Mo_copy.2.1 11 = .ok (.iload_n 2, 1) ∧ 11 + 1 = 12 := ⟨by decide +kernel, rfl⟩
theorem d_Mo_copy_12 : decode m_Mo_copy.2.1 12 = .ok (.iaload, 1) ∧ 12 + 1 = 13 := ⟨by decide +kernel, rfl⟩
theorem d_Mo_copy_13 : decode m_Mo_copy.2.1 13 = .ok (.iastore, 1) ∧ 13 + 1 = 14 := ⟨by decide +kernel, rfl⟩
theorem d_Mo_copy_14 : decode m_Mo_copy.2.1 14 = .ok (.iinc 2 1, 3) ∧ 14 + 3 = 17 := ⟨by decide +kernel, rfl⟩
theorem d_Mo_copy_17 : decode m_Mo_copy.2.1 17 = .ok (.goto (-15), 3) ∧ (((17 : Nat) : Int) + (-15) = ((2 : Nat) : Int)) := ⟨by decide +kernel, by decide⟩
theorem d_Mo_copy_20 : decode m_Mo_copy.2.1 20 = .ok (.return_, 1) := by decide +kernel
theorem d_Mo_letter_0 : decode m_Mo_letter.2.1 0 = .ok (.iload_n 1, 1) ∧ 0 + 1 = 1 := ⟨by decide +kernel, rfl⟩
theorem d_Mo_letter_1 : decode m_Mo_letter.2.1 1 = .ok (.i2l, 1) ∧ 1 + 1 = 2 := ⟨by decide +kernel, rfl⟩
theorem d_Mo_letter_2 : decode m_Mo_letter.2.1 2 = .ok (.lconst 1, 1) ∧ 2 + 1 = 3 := ⟨by decide +kernel, rfl⟩
theorem d_Mo_letter_3 : decode m_Mo_letter.2.1 3 = .ok (.ldc2_w 78, 3) ∧ 3 + 3 = 6 := ⟨by decide +kernel, rfl⟩
theorem d_Mo_letter_6 : decode m_Mo_letter.2.1 6 = .ok (.invokestatic 80, 3) ∧ 6 + 3 = 9 := ⟨by decide +kernel, rfl⟩
theorem d_Mo_letter_9 : decode m_Mo_letter.2.1 9 = .ok (.ifCond .ne 6, 3) ∧ 9 + 3 = 12 ∧ (((9 : Nat) : Int) + (6) = ((15 : Nat) : Int)) := ⟨by decide +kernel, rfl, by decide⟩
theorem d_Mo_letter_12 : decode m_Mo_letter.2.1 12 = .ok (.bipush (-102), 2) ∧ 12 + 2 = 14 ∧ (Int8.ofInt (-102)).toInt32 = Int32.ofInt (-102) := ⟨by decide +kernel, rfl, by decide +kernel⟩
theorem d_Mo_letter_14 : decode m_Mo_letter.2.1 14 = .ok (.ireturn, 1) := by decide +kernel
theorem d_Mo_letter_15 : decode m_Mo_letter.2.1 15 = .ok (.aload_n 0, 1) ∧ 15 + 1 = 16 := ⟨by decide +kernel, rfl⟩
theorem d_Mo_letter_16 : decode m_Mo_letter.2.1 16 = .ok (.getfield 84, 3) ∧ 16 + 3 = 19 := ⟨by decide +kernel, rfl⟩
theorem d_Mo_letter_19 : decode m_Mo_letter.2.1 19 = .ok (.bipush 24, 2) ∧ 19 + 2 = 21 ∧ (Int8.ofInt 24).toInt32 = Int32.ofInt 24 := ⟨by decide +kernel, rfl, by decide +kernel⟩
theorem d_Mo_letter_21 : decode m_Mo_letter.2.1 21 = .ok (.if_icmp .ne 6, 3) ∧ 21 + 3 = 24 ∧ (((21 : Nat) : Int) + (6) = ((27 : Nat) : Int)) := ⟨by decide +kernel, rfl, by decide⟩
theorem d_Mo_letter_24 : decode m_Mo_letter.2.1 24 = .ok (.bipush (-104), 2) ∧ 24 + 2 = 26 ∧ (Int8.ofInt (-104)).toInt32 = Int32.ofInt (-104) := ⟨by decide +kernel, rfl, by decide +kernel⟩
theorem d_Mo_letter_26 : decode m_Mo_letter.2.1 26 = .ok (.ireturn, 1) := by decide +kernel
theorem d_Mo_letter_27 : decode m_Mo_letter.2.1 27 = .ok (.aload_n 0, 1) ∧ 27 + 1 = 28 := ⟨by decide +kernel, rfl⟩
theorem d_Mo_letter_28 : decode m_Mo_letter.2.1 28 = .ok (.getfield 7, 3) ∧ 28 + 3 = 31 := ⟨by decide +kernel, rfl⟩
theorem d_Mo_letter_31 : decode m_Mo_letter.2.1 31 = .ok (.aload_n 0, 1) ∧ 31 + 1 = 32 := ⟨by decide +kernel, rfl⟩
theorem d_Mo_letter_32 : decode m_Mo_letter.2.1 32 = .ok (.getfield 84, 3) ∧ 32 + 3 = 35 := ⟨by decide +kernel, rfl⟩
theorem d_Mo_letter_35 : decode m_Mo_letter.2.1 35 = .ok (.iload_n 1, 1) ∧ 35 + 1 = 36 := ⟨by decide +kernel, rfl⟩
theorem d_Mo_letter_36 : decode m_Mo_letter.2.1 36 = .ok (.iastore, 1) ∧ 36 + 1 = 37 := ⟨by decide +kernel, rfl⟩
theorem d_Mo_letter_37 : decode m_Mo_letter.2.1 37 = .ok (.aload_n 0, 1) ∧ 37 + 1 = 38 := ⟨by decide +kernel, rfl⟩
theorem d_Mo_letter_38 : decode m_Mo_letter.2.1 38 = .ok (.dup, 1) ∧ 38 + 1 = 39 := ⟨by decide +kernel, rfl⟩
theorem d_Mo_letter_39 : decode m_Mo_letter.2.1 39 = .ok (.getfield 84, 3) ∧ 39 + 3 = 42 := ⟨by decide +kernel, rfl⟩
theorem d_Mo_letter_42 : decode m_Mo_letter.2.1 42 = .ok (.iconst 1, 1) ∧ 42 + 1 = 43 := ⟨by decide +kernel, rfl⟩
theorem d_Mo_letter_43 : decode m_Mo_letter.2.1 43 = .ok (.iadd, 1) ∧ 43 + 1 = 44 := ⟨by decide +kernel, rfl⟩
theorem d_Mo_letter_44 : decode m_Mo_letter.2.1 44 = .ok (.putfield 84, 3) ∧ 44 + 3 = 47 := ⟨by decide +kernel, rfl⟩
theorem d_Mo_letter_47 : decode m_Mo_letter.2.1 47 = .ok (.aload_n 0, 1) ∧ 47 + 1 = 48 := ⟨by decide +kernel, rfl⟩
theorem d_Mo_letter_48 : decode m_Mo_letter.2.1 48 = .ok (.getfield 84, 3) ∧ 48 + 3 = 51 := ⟨by decide +kernel, rfl⟩
theorem d_Mo_letter_51 : decode m_Mo_letter.2.1 51 = .ok (.ireturn, 1) := by decide +kernel
theorem d_Mo_blank_0 : decode m_Mo_blank.2.1 0 = .ok (.aload_n 0, 1) ∧ 0 + 1 = 1 := ⟨by decide +kernel, rfl⟩
theorem d_Mo_blank_1 : decode m_Mo_blank.2.1 1 = .ok (.getfield 84, 3) ∧ 1 + 3 = 4 := ⟨by decide +kernel, rfl⟩
theorem d_Mo_blank_4 : decode m_Mo_blank.2.1 4 = .ok (.istore_n 1, 1) ∧ 4 + 1 = 5 := ⟨by decide +kernel, rfl⟩
theorem d_Mo_blank_5 : decode m_Mo_blank.2.1 5 = .ok (.aload_n 0, 1) ∧ 5 + 1 = 6 := ⟨by decide +kernel, rfl⟩
theorem d_Mo_blank_6 : decode m_Mo_blank.2.1 6 = .ok (.iconst 0, 1) ∧ 6 + 1 = 7 := ⟨by decide +kernel, rfl⟩
theorem d_Mo_blank_7 : decode m_Mo_blank.2.1 7 = .ok (.putfield 84, 3) ∧ 7 + 3 = 10 := ⟨by decide +kernel, rfl⟩
theorem d_Mo_blank_10 : decode m_Mo_blank.2.1 10 = .ok (.iload_n 1, 1) ∧ 10 + 1 = 11 := ⟨by decide +kernel, rfl⟩
theorem d_Mo_blank_11 : decode m_Mo_blank.2.1 11 = .ok (.ireturn, 1) := by decide +kernel
theorem d_Mo_kindBy_0 : decode m_Mo_kindBy.2.1 0 = .ok (.iload_n 0, 1) ∧ 0 + 1 = 1 := ⟨by decide +kernel, rfl⟩
theorem d_Mo_kindBy_1 : decode m_Mo_kindBy.2.1 1 = .ok (.lookupswitch 61 #[(102, 59), (104, 55), (108, 53), (112, 51), (117, 57)], 51) := by decide +kernel
theorem d_Mo_kindBy_52 : decode m_Mo_kindBy.2.1 52 = .ok (.iconst 0, 1) ∧ 52 + 1 = 53 := ⟨by decide +kernel, rfl⟩
theorem d_Mo_kindBy_53 : decode m_Mo_kindBy.2.1 53 = .ok (.ireturn, 1) := by decide +kernel
theorem d_Mo_kindBy_54 : decode m_Mo_kindBy.2.1 54 = .ok (.iconst 1, 1) ∧ 54 + 1 = 55 := ⟨by decide +kernel, rfl⟩
theorem d_Mo_kindBy_55 : decode m_Mo_kindBy.2.1 55 = .ok (.ireturn, 1) := by decide +kernel
theorem d_Mo_kindBy_56 : decode m_Mo_kindBy.2.1 56 = .ok (.iconst 2, 1) ∧ 56 + 1 = 57 := ⟨by decide +kernel, rfl⟩
theorem d_Mo_kindBy_57 : decode m_Mo_kindBy.2.1 57 = .ok (.ireturn, 1) := by decide +kernel
theorem d_Mo_kindBy_58 : decode m_Mo_kindBy.2.1 58 = .ok (.iconst 3, 1) ∧ 58 + 1 = 59 := ⟨by decide +kernel, rfl⟩
theorem d_Mo_kindBy_59 : decode m_Mo_kindBy.2.1 59 = .ok (.ireturn, 1) := by decide +kernel
theorem d_Mo_kindBy_60 : decode m_Mo_kindBy.2.1 60 = .ok (.iconst 4, 1) ∧ 60 + 1 = 61 := ⟨by decide +kernel, rfl⟩
theorem d_Mo_kindBy_61 : decode m_Mo_kindBy.2.1 61 = .ok (.ireturn, 1) := by decide +kernel
theorem d_Mo_kindBy_62 : decode m_Mo_kindBy.2.1 62 = .ok (.iconst (-1), 1) ∧ 62 + 1 = 63 := ⟨by decide +kernel, rfl⟩
theorem d_Mo_kindBy_63 : decode m_Mo_kindBy.2.1 63 = .ok (.ireturn, 1) := by decide +kernel
theorem d_Mo_isGood_0 : decode m_Mo_isGood.2.1 0 = .ok (.aload_n 0, 1) ∧ 0 + 1 = 1 := ⟨by decide +kernel, rfl⟩
theorem d_Mo_isGood_1 : decode m_Mo_isGood.2.1 1 = .ok (.getfield 7, 3) ∧ 1 + 3 = 4 := ⟨by decide +kernel, rfl⟩
theorem d_Mo_isGood_4 : decode m_Mo_isGood.2.1 4 = .ok (.iload_n 1, 1) ∧ 4 + 1 = 5 := ⟨by decide +kernel, rfl⟩
theorem d_Mo_isGood_5 : decode m_Mo_isGood.2.1 5 = .ok (.iaload, 1) ∧ 5 + 1 = 6 := ⟨by decide +kernel, rfl⟩
theorem d_Mo_isGood_6 : decode m_Mo_isGood.2.1 6 = .ok (.istore_n 2, 1) ∧ 6 + 1 = 7 := ⟨by decide +kernel, rfl⟩
theorem d_Mo_isGood_7 : decode m_Mo_isGood.2.1 7 = .ok (.iload_n 1, 1) ∧ 7 + 1 = 8 := ⟨by decide +kernel, rfl⟩
theorem d_Mo_isGood_8 : decode m_Mo_isGood.2.1 8 = .ok (.bipush 6, 2) ∧ 8 + 2 = 10 ∧ (Int8.ofInt 6).toInt32 = Int32.ofInt 6 := ⟨by decide +kernel, rfl, by decide +kernel⟩
theorem d_Mo_isGood_10 : decode m_Mo_isGood.2.1 10 = .ok (.irem, 1) ∧ 10 + 1 = 11 := ⟨by decide +kernel, rfl⟩
theorem d_Mo_isGood_11 : decode m_Mo_isGood.2.1 11 = .ok (.tableswitch 77 0 4 #[33, 47, 65, 47, 65], 33) := by decide +kernel
theorem d_Mo_isGood_44 : decode m_Mo_isGood.2.1 44 = .ok (.iload_n 2, 1) ∧ 44 + 1 = 45 := ⟨by decide +kernel, rfl⟩
theorem d_Mo_isGood_45 : decode m_Mo_isGood.2.1 45 = .ok (.invokestatic 87, 3) ∧ 45 + 3 = 48 := ⟨by decide +kernel, rfl⟩
theorem d_Mo_isGood_48 : decode m_Mo_isGood.2.1 48 = .ok (.iconst (-1), 1) ∧ 48 + 1 = 49 := ⟨by decide +kernel, rfl⟩
theorem d_Mo_isGood_49 : decode m_Mo_isGood.2.1 49 = .ok (.if_icmp .eq 7, 3) ∧ 49 + 3 = 52 ∧ (((49 : Nat) : Int) + (7) = ((56 : Nat) : Int)) := ⟨by decide +kernel, rfl, by decide⟩
theorem d_Mo_isGood_52 : decode m_Mo_isGood.2.1 52 = .ok (.iconst 1, 1) ∧ 52 + 1 = 53 := ⟨by decide +kernel, rfl⟩
theorem d_Mo_isGood_53 : decode m_Mo_isGood.2.1 53 = .ok (.goto 4, 3) ∧ (((53 : Nat) : Int) + (4) = ((57 : Nat) : Int)) := ⟨by decide +kernel, by decide⟩
theorem d_Mo_isGood_56 : decode m_Mo_isGood.2.1 56 = .ok (.iconst 0, 1) ∧ 56 + 1 = 57 := ⟨by decide +kernel, rfl⟩
theorem d_Mo_isGood_57 : decode m_Mo_isGood.2.1 57 = .ok (.ireturn, 1) := by decide +kernel
theorem d_Mo_isGood_58 : decode m_Mo_isGood.2.1 58 = .ok (.iload_n 2, 1) ∧ 58 + 1 = 59 := ⟨by decide +kernel, rfl⟩
theorem d_Mo_isGood_59 : decode m_Mo_isGood.2.1 59 = .ok (.bipush 43, 2) ∧ 59 + 2 = 61 ∧ (Int8.ofInt 43).toInt32 = Int32.ofInt 43 := ⟨by decide +kernel, rfl, by decide +kernel⟩
theorem d_Mo_isGood_61 : decode m_Mo_isGood.2.1 61 = .ok (.if_icmp .eq 9, 3) ∧ 61 + 3 = 64 ∧ (((61 : Nat) : Int) + (9) = ((70 : Nat) : Int)) := ⟨by decide +kernel, rfl, by decide⟩
theorem d_Mo_isGood_64 : decode m_Mo_isGood.2.1 64 = .ok (.iload_n 2, 1) ∧ 64 + 1 = 65 := ⟨by decide +kernel, rfl⟩
theorem d_Mo_isGood_65 : decode m_Mo_isGood.2.1 65 = .ok (.bipush 45, 2) ∧ 65 + 2 = 67 ∧ (Int8.ofInt 45).toInt32 = Int32.ofInt 45 := ⟨by decide +kernel, rfl, by decide +kernel⟩
theorem d_Mo_isGood_67 : decode m_Mo_isGood.2.1 67 = .ok (.if_icmp .ne 7, 3) ∧ 67 + 3 = 70 ∧ (((67 : Nat) : Int) + (7) = ((74 : Nat) : Int)) := ⟨by decide +kernel, rfl, by decide⟩
theorem d_Mo_isGood_70 : decode m_Mo_isGood.2.1 70 = .ok (.iconst 1, 1) ∧ 70 + 1 = 71 := ⟨by decide +kernel, rfl⟩
theorem d_Mo_isGood_71 : decode m_Mo_isGood.2.1 71 = .ok (.goto 4, 3) ∧ (((71 : Nat) : Int) + (4) = ((75 : Nat) : Int)) := ⟨by decide +kernel, by decide⟩
theorem d_Mo_isGood_74 : decode m_Mo_isGood.2.1 74 = .ok (.iconst 0, 1) ∧ 74 + 1 = 75 := ⟨by decide +kernel, rfl⟩
theorem d_Mo_isGood_75 : decode m_Mo_isGood.2.1 75 = .ok (.ireturn, 1) := by decide +kernel
theorem d_Mo_isGood_76 : decode m_Mo_isGood.2.1 76 = .ok (.iload_n 2, 1) ∧ 76 + 1 = 77 := ⟨by decide +kernel, rfl⟩
theorem d_Mo_isGood_77 : decode m_Mo_isGood.2.1 77 = .ok (.i2l, 1) ∧ 77 + 1 = 78 := ⟨by decide +kernel, rfl⟩
theorem d_Mo_isGood_78 : decode m_Mo_isGood.2.1 78 = .ok (.ldc2_w 91, 3) ∧ 78 + 3 = 81 := ⟨by decide +kernel, rfl⟩
theorem d_Mo_isGood_81 : decode m_Mo_isGood.2.1 81 = .ok (.ldc2_w 93, 3) ∧ 81 + 3 = 84 := ⟨by decide +kernel, rfl⟩
theorem d_Mo_isGood_84 : decode m_Mo_isGood.2.1 84 = .ok (.invokestatic 80, 3) ∧ 84 + 3 = 87 := ⟨by decide +kernel, rfl⟩
theorem d_Mo_isGood_87 : decode m_Mo_isGood.2.1 87 = .ok (.ireturn, 1) := by decide +kernel
theorem d_Mo_isGood_88 : decode m_Mo_isGood.2.1 88 = .ok (.iload_n 2, 1) ∧ 88 + 1 = 89 := ⟨by decide +kernel, rfl⟩
theorem d_Mo_isGood_89 : decode m_Mo_isGood.2.1 89 = .ok (.bipush 44, 2) ∧ 89 + 2 = 91 ∧ (Int8.ofInt 44).toInt32 = Int32.ofInt 44 := ⟨by decide +kernel, rfl, by decide +kernel⟩
theorem d_Mo_isGood_91 : decode m_Mo_isGood.2.1 91 = .ok (.if_icmp .ne 13, 3) ∧ 91 + 3 = 94 ∧ (((91 : Nat) : Int) + (13) = ((104 : Nat) : Int)) := ⟨by decide +kernel, rfl, by decide⟩
theorem d_Mo_isGood_94 : decode m_Mo_isGood.2.1 94 = .ok (.iload_n 1, 1) ∧ 94 + 1 = 95 := ⟨by decide +kernel, rfl⟩
theorem d_Mo_isGood_95 : decode m_Mo_isGood.2.1 95 = .ok (.bipush 23, 2) ∧ 95 + 2 = 97 ∧ (Int8.ofInt 23).toInt32 = Int32.ofInt 23 := ⟨by decide +kernel, rfl, by decide +kernel⟩
theorem d_Mo_isGood_97 : decode m_Mo_isGood.2.1 97 = .ok (.if_icmp .ge 7, 3) ∧ 97 + 3 = 100 ∧ (((97 : Nat) : Int) + (7) = ((104 : Nat) : Int)) := ⟨by decide +kernel, rfl, by decide⟩
theorem d_Mo_isGood_100 : decode m_Mo_isGood.2.1 100 = .ok (.iconst 1, 1) ∧ 100 + 1 = 101 := ⟨by decide +kernel, rfl⟩
theorem d_Mo_isGood_101 : decode m_Mo_isGood.2.1 101 = .ok (.goto 4, 3) ∧ (((101 : Nat) : Int) + (4) = ((105 : Nat) : Int)) := ⟨by decide +kernel, by decide⟩
theorem d_Mo_isGood_104 : decode m_Mo_isGood.2.1 104 = .ok (.iconst 0, 1) ∧ 104 + 1 = 105 := ⟨by decide +kernel, rfl⟩
theorem d_Mo_isGood_105 : decode m_Mo_isGood.2.1 105 = .ok (.ireturn, 1) := by decide +kernel
theorem d_Mo_faultOf_0 : decode m_Mo_faultOf.2.1 0 = .ok (.iconst 0, 1) ∧ 0 + 1 = 1 := ⟨by decide +kernel, rfl⟩
theorem d_Mo_faultOf_1 : decode m_Mo_faultOf.2.1 1 = .ok (.istore_n 1, 1) ∧ 1 + 1 = 2 := ⟨by decide +kernel, rfl⟩
theorem d_Mo_faultOf_2 : decode m_Mo_faultOf.2.1 2 = .ok (.iload_n 1, 1) ∧ 2 + 1 = 3 := ⟨by decide +kernel, rfl⟩
theorem d_Mo_faultOf_3 : decode m_Mo_faultOf.2.1 3 = .ok (.aload_n 0, 1) ∧ 3 + 1 = 4 := ⟨by decide +kernel, rfl⟩
theorem d_Mo_faultOf_4 : decode m_Mo_faultOf.2.1 4 = .ok (.getfield 84, 3) ∧ 4 + 3 = 7 := ⟨by decide +kernel, rfl⟩
theorem d_Mo_faultOf_7 : decode m_Mo_faultOf.2.1 7 = .ok (.if_icmp .ge 17, 3) ∧ 7 + 3 = 10 ∧ (((7 : Nat) : Int) + (17) = ((24 : Nat) : Int)) := ⟨by decide +kernel, rfl, by decide⟩
theorem d_Mo_faultOf_10 : decode m_Mo_faultOf.2.1 10 = .ok (.aload_n 0, 1) ∧ 10 + 1 = 11 := ⟨by decide +kernel, rfl⟩
theorem d_Mo_faultOf_11 : decode m_Mo_faultOf.2.1 11 = .ok (.iload_n 1, 1) ∧ 11 + 1 = 12 := ⟨by decide +kernel, rfl⟩
theorem d_Mo_faultOf_12 : decode m_Mo_faultOf.2.1 12 = .ok (.invokevirtual 95, 3) ∧ 12 + 3 = 15 := ⟨by decide +kernel, rfl⟩
theorem d_Mo_faultOf_15 : decode m_Mo_faultOf.2.1 15 = .ok (.ifCond .eq 9, 3) ∧ 15 + 3 = 18 ∧ (((15 : Nat) : Int) + (9) = ((24 : Nat) : Int)) := ⟨by decide +kernel, rfl, by decide⟩
theorem d_Mo_faultOf_18 : decode m_Mo_faultOf.2.1 18 = .ok (.iinc 1 1, 3) ∧ 18 + 3 = 21 := ⟨by decide +kernel, rfl⟩
theorem d_Mo_faultOf_21 : decode m_Mo_faultOf.2.1 21 = .ok (.goto (-19), 3) ∧ (((21 : Nat) : Int) + (-19) = ((2 : Nat) : Int)) := ⟨by decide +kernel, by decide⟩
theorem d_Mo_faultOf_24 : decode m_Mo_faultOf.2.1 24 = .ok (.iload_n 1, 1) ∧ 24 + 1 = 25 := ⟨by decide +kernel, rfl⟩
theorem d_Mo_faultOf_25 : decode m_Mo_faultOf.2.1 25 = .ok (.ireturn, 1) := by decide +kernel
theorem d_Mo_fault_0 : decode m_Mo_fault.2.1 0 = .ok (.aload_n 0, 1) ∧ 0 + 1 = 1 := ⟨by decide +kernel, rfl⟩
theorem d_Mo_fault_1 : decode m_Mo_fault.2.1 1 = .ok (.invokevirtual 99, 3) ∧ 1 + 3 = 4 := ⟨by decide +kernel, rfl⟩
theorem d_Mo_fault_4 : decode m_Mo_fault.2.1 4 = .ok (.ireturn, 1) := by decide +kernel
theorem d_Mo_numberAt_0 : decode m_Mo_numberAt.2.1 0 = .ok (.aload_n 0, 1) ∧ 0 + 1 = 1 := ⟨by decide +kernel, rfl⟩
theorem d_Mo_numberAt_1 : decode m_Mo_numberAt.2.1 1 = .ok (.getfield 7, 3) ∧ 1 + 3 = 4 := ⟨by decide +kernel, rfl⟩
theorem d_Mo_numberAt_4 : decode m_Mo_numberAt.2.1 4 = .ok (.iload_n 1, 1) ∧ 4 + 1 = 5 := ⟨by decide +kernel, rfl⟩
theorem d_Mo_numberAt_5 : decode m_Mo_numberAt.2.1 5 = .ok (.iaload, 1) ∧ 5 + 1 = 6 := ⟨by decide +kernel, rfl⟩
theorem d_Mo_numberAt_6 : decode m_Mo_numberAt.2.1 6 = .ok (.bipush 45, 2) ∧ 6 + 2 = 8 ∧ (Int8.ofInt 45).toInt32 = Int32.ofInt 45 := ⟨by decide +kernel, rfl, by decide +kernel⟩
theorem d_Mo_numberAt_8 : decode m_Mo_numberAt.2.1 8 = .ok (.if_icmp .ne 17, 3) ∧ 8 + 3 = 11 ∧ (((8 : Nat) : Int) + (17) = ((25 : Nat) : Int)) := ⟨by decide +kernel, rfl, by decide⟩
theorem d_Mo_numberAt_11 : decode m_Mo_numberAt.2.1 11 = .ok (.bipush 48, 2) ∧ 11 + 2 = 13 ∧ (Int8.ofInt 48).toInt32 = Int32.ofInt 48 := ⟨by decide +kernel, rfl, by decide +kernel⟩
theorem d_Mo_numberAt_13 : decode m_Mo_numberAt.2.1 13 = .ok (.aload_n 0, 1) ∧ 13 + 1 = 14 := ⟨by decide +kernel, rfl⟩
theorem d_Mo_numberAt_14 : decode m_Mo_numberAt.2.1 14 = .ok (.getfield 7, 3) ∧ 14 + 3 = 17 := ⟨by decide +kernel, rfl⟩
theorem d_Mo_numberAt_17 : decode m_Mo_numberAt.2.1 17 = .ok (.iload_n 1, 1) ∧ 17 + 1 = 18 := ⟨by decide +kernel, rfl⟩
theorem d_Mo_numberAt_18 : decode m_Mo_numberAt.2.1 18 = .ok (.iconst 1, 1) ∧ 18 + 1 = 19 := ⟨by decide +kernel, rfl⟩
theorem d_Mo_numberAt_19 : decode m_Mo_numberAt.2.1 19 = .ok (.iadd, 1) ∧ 19 + 1 = 20 := ⟨by decide +kernel, rfl⟩
theorem d_Mo_numberAt_20 : decode m_Mo_numberAt.2.1 20 = .ok (.iaload, 1) ∧ 20 + 1 = 21 := ⟨by decide +kernel, rfl⟩
theorem d_Mo_numberAt_21 : decode m_Mo_numberAt.2.1 21 = .ok (.isub, 1) ∧ 21 + 1 = 22 := ⟨by decide +kernel, rfl⟩
theorem d_Mo_numberAt_22 : decode m_Mo_numberAt.2.1 22 = .ok (.goto 14, 3) ∧ (((22 : Nat) : Int) + (14) = ((36 : Nat) : Int)) := ⟨by decide +kernel, by decide⟩
theorem d_Mo_numberAt_25 : decode m_Mo_numberAt.2.1 25 = .ok (.aload_n 0, 1) ∧ 25 + 1 = 26 := ⟨by decide +kernel, rfl⟩
theorem d_Mo_numberAt_26 : decode m_Mo_numberAt.2.1 26 = .ok (.getfield 7, 3) ∧ 26 + 3 = 29 := ⟨by decide +kernel, rfl⟩
theorem d_Mo_numberAt_29 : decode m_Mo_numberAt.2.1 29 = .ok (.iload_n 1, 1) ∧ 29 + 1 = 30 := ⟨by decide +kernel, rfl⟩
theorem d_Mo_numberAt_30 : decode m_Mo_numberAt.2.1 30 = .ok (.iconst 1, 1) ∧ 30 + 1 = 31 := ⟨by decide +kernel, rfl⟩
theorem d_Mo_numberAt_31 : decode m_Mo_numberAt.2.1 31 = .ok (.iadd, 1) ∧ 31 + 1 = 32 := ⟨by decide +kernel, rfl⟩
theorem d_Mo_numberAt_32 : decode m_Mo_numberAt.2.1 32 = .ok (.iaload, 1) ∧ 32 + 1 = 33 := ⟨by decide +kernel, rfl⟩
theorem d_Mo_numberAt_33 : decode m_Mo_numberAt.2.1 33 = .ok (.bipush 48, 2) ∧ 33 + 2 = 35 ∧ (Int8.ofInt 48).toInt32 = Int32.ofInt 48 := ⟨by decide +kernel, rfl, by decide +kernel⟩
theorem d_Mo_numberAt_35 : decode m_Mo_numberAt.2.1 35 = .ok (.isub, 1) ∧ 35 + 1 = 36 := ⟨by decide +kernel, rfl⟩
theorem d_Mo_numberAt_36 : decode m_Mo_numberAt.2.1 36 = .ok (.ireturn, 1) := by decide +kernel
theorem d_Mo_name_0 : decode m_Mo_name.2.1 0 = .ok (.aload_n 0, 1) ∧ 0 + 1 = 1 := ⟨by decide +kernel, rfl⟩
theorem d_Mo_name_1 : decode m_Mo_name.2.1 1 = .ok (.getfield 22, 3) ∧ 1 + 3 = 4 := ⟨by decide +kernel, rfl⟩
theorem d_Mo_name_4 : decode m_Mo_name.2.1 4 = .ok (.iload_n 1, 1) ∧ 4 + 1 = 5 := ⟨by decide +kernel, rfl⟩
theorem d_Mo_name_5 : decode m_Mo_name.2.1 5 = .ok (.aload_n 0, 1) ∧ 5 + 1 = 6 := ⟨by decide +kernel, rfl⟩
theorem d_Mo_name_6 : decode m_Mo_name.2.1 6 = .ok (.getfield 72, 3) ∧ 6 + 3 = 9 := ⟨by decide +kernel, rfl⟩
theorem d_Mo_name_9 : decode m_Mo_name.2.1 9 = .ok (.iastore, 1) ∧ 9 + 1 = 10 := ⟨by decide +kernel, rfl⟩
theorem d_Mo_name_10 : decode m_Mo_name.2.1 10 = .ok (.aload_n 0, 1) ∧ 10 + 1 = 11 := ⟨by decide +kernel, rfl⟩
theorem d_Mo_name_11 : decode m_Mo_name.2.1 11 = .ok (.dup, 1) ∧ 11 + 1 = 12 := ⟨by decide +kernel, rfl⟩
theorem d_Mo_name_12 : decode m_Mo_name.2.1 12 = .ok (.getfield 72, 3) ∧ 12 + 3 = 15 := ⟨by decide +kernel, rfl⟩
theorem d_Mo_name_15 : decode m_Mo_name.2.1 15 = .ok (.iconst 1, 1) ∧ 15 + 1 = 16 := ⟨by decide +kernel, rfl⟩
theorem d_Mo_name_16 : decode m_Mo_name.2.1 16 = .ok (.iadd, 1) ∧ 16 + 1 = 17 := ⟨by decide +kernel, rfl⟩
theorem d_Mo_name_17 : decode m_Mo_name.2.1 17 = .ok (.putfield 72, 3) ∧ 17 + 3 = 20 := ⟨by decide +kernel, rfl⟩
theorem d_Mo_name_20 : decode m_Mo_name.2.1 20 = .ok (.return_, 1) := by decide +kernel
theorem d_Mo_plane_0 : decode m_Mo_plane.2.1 0 = .ok (.aload_n 0, 1) ∧ 0 + 1 = 1 := ⟨by decide +kernel, rfl⟩
theorem d_Mo_plane_1 : decode m_Mo_plane.2.1 1 = .ok (.getfield 84, 3) ∧ 1 + 3 = 4 := ⟨by decide +kernel, rfl⟩
theorem d_Mo_plane_4 : decode m_Mo_plane.2.1 4 = .ok (.bipush 6, 2) ∧ 4 + 2 = 6 ∧ (Int8.ofInt 6).toInt32 = Int32.ofInt 6 := ⟨by decide +kernel, rfl, by decide +kernel⟩
theorem d_Mo_plane_6 : decode m_Mo_plane.2.1 6 = .ok (.irem, 1) ∧ 6 + 1 = 7 := ⟨by decide +kernel, rfl⟩
theorem d_Mo_plane_7 : decode m_Mo_plane.2.1 7 = .ok (.iconst 5, 1) ∧ 7 + 1 = 8 := ⟨by decide +kernel, rfl⟩
theorem d_Mo_plane_8 : decode m_Mo_plane.2.1 8 = .ok (.if_icmp .ne 14, 3) ∧ 8 + 3 = 11 ∧ (((8 : Nat) : Int) + (14) = ((22 : Nat) : Int)) := ⟨by decide +kernel, rfl, by decide⟩
theorem d_Mo_plane_11 : decode m_Mo_plane.2.1 11 = .ok (.aload_n 0, 1) ∧ 11 + 1 = 12 := ⟨by decide +kernel, rfl⟩
theorem d_Mo_plane_12 : decode m_Mo_plane.2.1 12 = .ok (.invokevirtual 99, 3) ∧ 12 + 3 = 15 := ⟨by decide +kernel, rfl⟩
theorem d_Mo_plane_15 : decode m_Mo_plane.2.1 15 = .ok (.aload_n 0, 1) ∧ 15 + 1 = 16 := ⟨by decide +kernel, rfl⟩
theorem d_Mo_plane_16 : decode m_Mo_plane.2.1 16 = .ok (.getfield 84, 3) ∧ 16 + 3 = 19 := ⟨by decide +kernel, rfl⟩
theorem d_Mo_plane_19 : decode m_Mo_plane.2.1 19 = .ok (.if_icmp .ge 6, 3) ∧ 19 + 3 = 22 ∧ (((19 : Nat) : Int) + (6) = ((25 : Nat) : Int)) := ⟨by decide +kernel, rfl, by decide⟩
theorem d_Mo_plane_22 : decode m_Mo_plane.2.1 22 = .ok (.bipush (-103), 2) ∧ 22 + 2 = 24 ∧ (Int8.ofInt (-103)).toInt32 = Int32.ofInt (-103) := ⟨by decide +kernel, rfl, by decide +kernel⟩
theorem d_Mo_plane_24 : decode m_Mo_plane.2.1 24 = .ok (.ireturn, 1) := by decide +kernel
theorem d_Mo_plane_25 : decode m_Mo_plane.2.1 25 = .ok (.aload_n 0, 1) ∧ 25 + 1 = 26 := ⟨by decide +kernel, rfl⟩
theorem d_Mo_plane_26 : decode m_Mo_plane.2.1 26 = .ok (.aload_n 0, 1) ∧ 26 + 1 = 27 := ⟨by decide +kernel, rfl⟩
theorem d_Mo_plane_27 : decode m_Mo_plane.2.1 27 = .ok (.getfield 84, 3) ∧ 27 + 3 = 30 := ⟨by decide +kernel, rfl⟩
theorem d_Mo_plane_30 : decode m_Mo_plane.2.1 30 = .ok (.iconst 1, 1) ∧ 30 + 1 = 31 := ⟨by decide +kernel, rfl⟩
theorem d_Mo_plane_31 : decode m_Mo_plane.2.1 31 = .ok (.iadd, 1) ∧ 31 + 1 = 32 := ⟨by decide +kernel, rfl⟩
theorem d_Mo_plane_32 : decode m_Mo_plane.2.1 32 = .ok (.bipush 6, 2) ∧ 32 + 2 = 34 ∧ (Int8.ofInt 6).toInt32 = Int32.ofInt 6 := ⟨by decide +kernel, rfl, by decide +kernel⟩
theorem d_Mo_plane_34 : decode m_Mo_plane.2.1 34 = .ok (.idiv, 1) ∧ 34 + 1 = 35 := ⟨by decide +kernel, rfl⟩
theorem d_Mo_plane_35 : decode m_Mo_plane.2.1 35 = .ok (.putfield 103, 3) ∧ 35 + 3 = 38 := ⟨by decide +kernel, rfl⟩
theorem d_Mo_plane_38 : decode m_Mo_plane.2.1 38 = .ok (.iconst 0, 1) ∧ 38 + 1 = 39 := ⟨by decide +kernel, rfl⟩
theorem d_Mo_plane_39 : decode m_Mo_plane.2.1 39 = .ok (.istore_n 1, 1) ∧ 39 + 1 = 40 := ⟨by decide +kernel, rfl⟩
theorem d_Mo_plane_40 : decode m_Mo_plane.2.1 40 = .ok (.iload_n 1, 1) ∧ 40 + 1 = 41 := ⟨by decide +kernel, rfl⟩
theorem d_Mo_plane_41 : decode m_Mo_plane.2.1 41 = .ok (.aload_n 0, 1) ∧ 41 + 1 = 42 := ⟨by decide +kernel, rfl⟩
theorem d_Mo_plane_42 : decode m_Mo_plane.2.1 42 = .ok (.getfield 103, 3) ∧ 42 + 3 = 45 := ⟨by decide +kernel, rfl⟩
theorem d_Mo_plane_45 : decode m_Mo_plane.2.1 45 = .ok (.if_icmp .ge 64, 3) ∧ 45 + 3 = 48 ∧ (((45 : Nat) : Int) + (64) = ((109 : Nat) : Int)) := ⟨by decide +kernel, rfl, by decide⟩
theorem d_Mo_plane_48 : decode m_Mo_plane.2.1 48 = .ok (.aload_n 0, 1) ∧ 48 + 1 = 49 := ⟨by decide +kernel, rfl⟩
theorem d_Mo_plane_49 : decode m_Mo_plane.2.1 49 = .ok (.getfield 13, 3) ∧ 49 + 3 = 52 := ⟨by decide +kernel, rfl⟩
theorem d_Mo_plane_52 : decode m_Mo_plane.2.1 52 = .ok (.iload_n 1, 1) ∧ 52 + 1 = 53 := ⟨by decide +kernel, rfl⟩
theorem d_Mo_plane_53 : decode m_Mo_plane.2.1 53 = .ok (.aload_n 0, 1) ∧ 53 + 1 = 54 := ⟨by decide +kernel, rfl⟩
theorem d_Mo_plane_54 : decode m_Mo_plane.2.1 54 = .ok (.getfield 7, 3) ∧ 54 + 3 = 57 := ⟨by decide +kernel, rfl⟩
theorem d_Mo_plane_57 : decode m_Mo_plane.2.1 57 = .ok (.bipush 6, 2) ∧ 57 + 2 = 59 ∧ (Int8.ofInt 6).toInt32 = Int32.ofInt 6 := ⟨by decide +kernel, rfl, by decide +kernel⟩
theorem d_Mo_plane_59 : decode m_Mo_plane.2.1 59 = .ok (.iload_n 1, 1) ∧ 59 + 1 = 60 := ⟨by decide +kernel, rfl⟩
theorem d_Mo_plane_60 : decode m_Mo_plane.2.1 60 = .ok (.imul, 1) ∧ 60 + 1 = 61 := ⟨by decide +kernel, rfl⟩
theorem d_Mo_plane_61 : decode m_Mo_plane.2.1 61 = .ok (.iaload, 1) ∧ 61 + 1 = 62 := ⟨by decide +kernel, rfl⟩
theorem d_Mo_plane_62 : decode m_Mo_plane.2.1 62 = .ok (.invokestatic 87, 3) ∧ 62 + 3 = 65 := ⟨by decide +kernel, rfl⟩
theorem d_Mo_plane_65 : decode m_Mo_plane.2.1 65 = .ok (.iastore, 1) ∧ 65 + 1 = 66 := ⟨by decide +kernel, rfl⟩
theorem d_Mo_plane_66 : decode m_Mo_plane.2.1 66 = .ok (.aload_n 0, 1) ∧ 66 + 1 = 67 := ⟨by decide +kernel, rfl⟩
theorem d_Mo_plane_67 : decode m_Mo_plane.2.1 67 = .ok (.getfield 16, 3) ∧ 67 + 3 = 70 := ⟨by decide +kernel, rfl⟩
theorem d_Mo_plane_70 : decode m_Mo_plane.2.1 70 = .ok (.iload_n 1, 1) ∧ 70 + 1 = 71 := ⟨by decide +kernel, rfl⟩
theorem d_Mo_plane_71 : decode m_Mo_plane.2.1 71 = .ok (.aload_n 0, 1) ∧ 71 + 1 = 72 := ⟨by decide +kernel, rfl⟩
theorem d_Mo_plane_72 : decode m_Mo_plane.2.1 72 = .ok (.bipush 6, 2) ∧ 72 + 2 = 74 ∧ (Int8.ofInt 6).toInt32 = Int32.ofInt 6 := ⟨by decide +kernel, rfl, by decide +kernel⟩
theorem d_Mo_plane_74 : decode m_Mo_plane.2.1 74 = .ok (.iload_n 1, 1) ∧ 74 + 1 = 75 := ⟨by decide +kernel, rfl⟩
theorem d_Mo_plane_75 : decode m_Mo_plane.2.1 75 = .ok (.imul, 1) ∧ 75 + 1 = 76 := ⟨by decide +kernel, rfl⟩
theorem d_Mo_plane_76 : decode m_Mo_plane.2.1 76 = .ok (.iconst 1, 1) ∧ 76 + 1 = 77 := ⟨by decide +kernel, rfl⟩
theorem d_Mo_plane_77 : decode m_Mo_plane.2.1 77 = .ok (.iadd, 1) ∧ 77 + 1 = 78 := ⟨by decide +kernel, rfl⟩
theorem d_Mo_plane_78 : decode m_Mo_plane.2.1 78 = .ok (.invokevirtual 106, 3) ∧ 78 + 3 = 81 := ⟨by decide +kernel, rfl⟩
theorem d_Mo_plane_81 : decode m_Mo_plane.2.1 81 = .ok (.iastore, 1) ∧ 81 + 1 = 82 := ⟨by decide +kernel, rfl⟩
theorem d_Mo_plane_82 : decode m_Mo_plane.2.1 82 = .ok (.aload_n 0, 1) ∧ 82 + 1 = 83 := ⟨by decide +kernel, rfl⟩
theorem d_Mo_plane_83 : decode m_Mo_plane.2.1 83 = .ok (.getfield 19, 3) ∧ 83 + 3 = 86 := ⟨by decide +kernel, rfl⟩
theorem d_Mo_plane_86 : decode m_Mo_plane.2.1 86 = .ok (.iload_n 1, 1) ∧ 86 + 1 = 87 := ⟨by decide +kernel, rfl⟩
theorem d_Mo_plane_87 : decode m_Mo_plane.2.1 87 = .ok (.aload_n 0, 1) ∧ 87 + 1 = 88 := ⟨by decide +kernel, rfl⟩
theorem d_Mo_plane_88 : decode m_Mo_plane.2.1 88 = .ok (.bipush 6, 2) ∧ 88 + 2 = 90 ∧ (Int8.ofInt 6).toInt32 = Int32.ofInt 6 := ⟨by decide +kernel, rfl, by decide +kernel⟩
theorem d_Mo_plane_90 : decode m_Mo_plane.2.1 90 = .ok (.iload_n 1, 1) ∧ 90 + 1 = 91 := ⟨by decide +kernel, rfl⟩
theorem d_Mo_plane_91 : decode m_Mo_plane.2.1 91 = .ok (.imul, 1) ∧ 91 + 1 = 92 := ⟨by decide +kernel, rfl⟩
theorem d_Mo_plane_92 : decode m_Mo_plane.2.1 92 = .ok (.iconst 3, 1) ∧ 92 + 1 = 93 := ⟨by decide +kernel, rfl⟩
theorem d_Mo_plane_93 : decode m_Mo_plane.2.1 93 = .ok (.iadd, 1) ∧ 93 + 1 = 94 := ⟨by decide +kernel, rfl⟩
theorem d_Mo_plane_94 : decode m_Mo_plane.2.1 94 = .ok (.invokevirtual 106, 3) ∧ 94 + 3 = 97 := ⟨by decide +kernel, rfl⟩
theorem d_Mo_plane_97 : decode m_Mo_plane.2.1 97 = .ok (.iastore, 1) ∧ 97 + 1 = 98 := ⟨by decide +kernel, rfl⟩
theorem d_Mo_plane_98 : decode m_Mo_plane.2.1 98 = .ok (.aload_n 0, 1) ∧ 98 + 1 = 99 := ⟨by decide +kernel, rfl⟩
theorem d_Mo_plane_99 : decode m_Mo_plane.2.1 99 = .ok (.iload_n 1, 1) ∧ 99 + 1 = 100 := ⟨by decide +kernel, rfl⟩
theorem d_Mo_plane_100 : decode m_Mo_plane.2.1 100 = .ok (.invokevirtual 109, 3) ∧ 100 + 3 = 103 := ⟨by decide +kernel, rfl⟩
theorem d_Mo_plane_103 : decode m_Mo_plane.2.1 103 = .ok (.iinc 1 1, 3) ∧ 103 + 3 = 106 := ⟨by decide +kernel, rfl⟩
theorem d_Mo_plane_106 : decode m_Mo_plane.2.1 106 = .ok (.goto (-66), 3) ∧ (((106 : Nat) : Int) + (-66) = ((40 : Nat) : Int)) := ⟨by decide +kernel, by decide⟩
theorem d_Mo_plane_109 : decode m_Mo_plane.2.1 109 = .ok (.aload_n 0, 1) ∧ 109 + 1 = 110 := ⟨by decide +kernel, rfl⟩
theorem d_Mo_plane_110 : decode m_Mo_plane.2.1 110 = .ok (.iconst 0, 1) ∧ 110 + 1 = 111 := ⟨by decide +kernel, rfl⟩
theorem d_Mo_plane_111 : decode m_Mo_plane.2.1 111 = .ok (.putfield 113, 3) ∧ 111 + 3 = 114 := ⟨by decide +kernel, rfl⟩
theorem d_Mo_plane_114 : decode m_Mo_plane.2.1 114 = .ok (.aload_n 0, 1) ∧ 114 + 1 = 115 := ⟨by decide +kernel, rfl⟩
theorem d_Mo_plane_115 : decode m_Mo_plane.2.1 115 = .ok (.dup, 1) ∧ 115 + 1 = 116 := ⟨by decide +kernel, rfl⟩
theorem d_Mo_plane_116 : decode m_Mo_plane.2.1 116 = .ok (.getfield 116, 3) ∧ 116 + 3 = 119 := ⟨by decide +kernel, rfl⟩
theorem d_Mo_plane_119 : decode m_Mo_plane.2.1 119 = .ok (.iconst 1, 1) ∧ 119 + 1 = 120 := ⟨by decide +kernel, rfl⟩
theorem d_Mo_plane_120 : decode m_Mo_plane.2.1 120 = .ok (.iadd, 1) ∧ 120 + 1 = 121 := ⟨by decide +kernel, rfl⟩
theorem d_Mo_plane_121 : decode m_Mo_plane.2.1 121 = .ok (.putfield 116, 3) ∧ 121 + 3 = 124 := ⟨by decide +kernel, rfl⟩
theorem d_Mo_plane_124 : decode m_Mo_plane.2.1 124 = .ok (.aload_n 0, 1) ∧ 124 + 1 = 125 := ⟨by decide +kernel, rfl⟩
theorem d_Mo_plane_125 : decode m_Mo_plane.2.1 125 = .ok (.iconst 0, 1) ∧ 125 + 1 = 126 := ⟨by decide +kernel, rfl⟩
theorem d_Mo_plane_126 : decode m_Mo_plane.2.1 126 = .ok (.putfield 84, 3) ∧ 126 + 3 = 129 := ⟨by decide +kernel, rfl⟩
theorem d_Mo_plane_129 : decode m_Mo_plane.2.1 129 = .ok (.aload_n 0, 1) ∧ 129 + 1 = 130 := ⟨by decide +kernel, rfl⟩
theorem d_Mo_plane_130 : decode m_Mo_plane.2.1 130 = .ok (.iconst 1, 1) ∧ 130 + 1 = 131 := ⟨by decide +kernel, rfl⟩
theorem d_Mo_plane_131 : decode m_Mo_plane.2.1 131 = .ok (.putfield 119, 3) ∧ 131 + 3 = 134 := ⟨by decide +kernel, rfl⟩
theorem d_Mo_plane_134 : decode m_Mo_plane.2.1 134 = .ok (.aload_n 0, 1) ∧ 134 + 1 = 135 := ⟨by decide +kernel, rfl⟩
theorem d_Mo_plane_135 : decode m_Mo_plane.2.1 135 = .ok (.getfield 103, 3) ∧ 135 + 3 = 138 := ⟨by decide +kernel, rfl⟩
theorem d_Mo_plane_138 : decode m_Mo_plane.2.1 138 = .ok (.ireturn, 1) := by decide +kernel
theorem d_Mo_lacks_0 : decode m_Mo_lacks.2.1 0 = .ok (.aload_n 0, 1) ∧ 0 + 1 = 1 := ⟨by decide +kernel, rfl⟩
theorem d_Mo_lacks_1 : decode m_Mo_lacks.2.1 1 = .ok (.getfield 103, 3) ∧ 1 + 3 = 4 := ⟨by decide +kernel, rfl⟩
theorem d_Mo_lacks_4 : decode m_Mo_lacks.2.1 4 = .ok (.ifCond .ne 7, 3) ∧ 4 + 3 = 7 ∧ (((4 : Nat) : Int) + (7) = ((11 : Nat) : Int)) := ⟨by decide +kernel, rfl, by decide⟩
theorem d_Mo_lacks_7 : decode m_Mo_lacks.2.1 7 = .ok (.iconst 1, 1) ∧ 7 + 1 = 8 := ⟨by decide +kernel, rfl⟩
theorem d_Mo_lacks_8 : decode m_Mo_lacks.2.1 8 = .ok (.goto 4, 3) ∧ (((8 : Nat) : Int) + (4) = ((12 : Nat) : Int)) := ⟨by decide +kernel, by decide⟩
theorem d_Mo_lacks_11 : decode m_Mo_lacks.2.1 11 = .ok (.iconst 0, 1) ∧ 11 + 1 = 12 := ⟨by decide +kernel, rfl⟩
theorem d_Mo_lacks_12 : decode m_Mo_lacks.2.1 12 = .ok (.ireturn, 1) := by decide +kernel
theorem d_Mo_isCurve_0 : decode m_Mo_isCurve.2.1 0 = .ok (.iload_n 1, 1) ∧ 0 + 1 = 1 := ⟨by decide +kernel, rfl⟩
theorem d_Mo_isCurve_1 : decode m_Mo_isCurve.2.1 1 = .ok (.i2l, 1) ∧ 1 + 1 = 2 := ⟨by decide +kernel, rfl⟩
theorem d_Mo_isCurve_2 : decode m_Mo_isCurve.2.1 2 = .ok (.lconst 0, 1) ∧ 2 + 1 = 3 := ⟨by decide +kernel, rfl⟩
theorem d_Mo_isCurve_3 : decode m_Mo_isCurve.2.1 3 = .ok (.aload_n 0, 1) ∧ 3 + 1 = 4 := ⟨by decide +kernel, rfl⟩
theorem d_Mo_isCurve_4 : decode m_Mo_isCurve.2.1 4 = .ok (.getfield 103, 3) ∧ 4 + 3 = 7 := ⟨by decide +kernel, rfl⟩
theorem d_Mo_isCurve_7 : decode m_Mo_isCurve.2.1 7 = .ok (.iconst 1, 1) ∧ 7 + 1 = 8 := ⟨by decide +kernel, rfl⟩
theorem d_Mo_isCurve_8 : decode m_Mo_isCurve.2.1 8 = .ok (.isub, 1) ∧ 8 + 1 = 9 := ⟨by decide +kernel, rfl⟩
theorem d_Mo_isCurve_9 : decode m_Mo_isCurve.2.1 9 = .ok (.i2l, 1) ∧ 9 + 1 = 10 := ⟨by decide +kernel, rfl⟩
theorem d_Mo_isCurve_10 : decode m_Mo_isCurve.2.1 10 = .ok (.invokestatic 80, 3) ∧ 10 + 3 = 13 := ⟨by decide +kernel, rfl⟩
theorem d_Mo_isCurve_13 : decode m_Mo_isCurve.2.1 13 = .ok (.ireturn, 1) := by decide +kernel
theorem d_Mo_squareBy_0 : decode m_Mo_squareBy.2.1 0 = .ok (.iload_n 0, 1) ∧ 0 + 1 = 1 := ⟨by decide +kernel, rfl⟩
theorem d_Mo_squareBy_1 : decode m_Mo_squareBy.2.1 1 = .ok (.ifCond .ne 7, 3) ∧ 1 + 3 = 4 ∧ (((1 : Nat) : Int) + (7) = ((8 : Nat) : Int)) := ⟨by decide +kernel, rfl, by decide⟩
theorem d_Mo_squareBy_4 : decode m_Mo_squareBy.2.1 4 = .ok (.iconst 1, 1) ∧ 4 + 1 = 5 := ⟨by decide +kernel, rfl⟩
theorem d_Mo_squareBy_5 : decode m_Mo_squareBy.2.1 5 = .ok (.goto 13, 3) ∧ (((5 : Nat) : Int) + (13) = ((18 : Nat) : Int)) := ⟨by decide +kernel, by decide⟩
theorem d_Mo_squareBy_8 : decode m_Mo_squareBy.2.1 8 = .ok (.iload_n 0, 1) ∧ 8 + 1 = 9 := ⟨by decide +kernel, rfl⟩
theorem d_Mo_squareBy_9 : decode m_Mo_squareBy.2.1 9 = .ok (.iconst 4, 1) ∧ 9 + 1 = 10 := ⟨by decide +kernel, rfl⟩
theorem d_Mo_squareBy_10 : decode m_Mo_squareBy.2.1 10 = .ok (.if_icmp .ne 7, 3) ∧ 10 + 3 = 13 ∧ (((10 : Nat) : Int) + (7) = ((17 : Nat) : Int)) := ⟨by decide +kernel, rfl, by decide⟩
theorem d_Mo_squareBy_13 : decode m_Mo_squareBy.2.1 13 = .ok (.iconst (-1), 1) ∧ 13 + 1 = 14 := ⟨by decide +kernel, rfl⟩
theorem d_Mo_squareBy_14 : decode m_Mo_squareBy.2.1 14 = .ok (.goto 4, 3) ∧ (((14 : Nat) : Int) + (4) = ((18 : Nat) : Int)) := ⟨by decide +kernel, by decide⟩
theorem d_Mo_squareBy_17 : decode m_Mo_squareBy.2.1 17 = .ok (.iconst 0, 1) ∧ 17 + 1 = 18 := ⟨by decide +kernel, rfl⟩
theorem d_Mo_squareBy_18 : decode m_Mo_squareBy.2.1 18 = .ok (.ireturn, 1) := by decide +kernel
theorem d_Mo_square_0 : decode m_Mo_square.2.1 0 = .ok (.aload_n 0, 1) ∧ 0 + 1 = 1 := ⟨by decide +kernel, rfl⟩
theorem d_Mo_square_1 : decode m_Mo_square.2.1 1 = .ok (.getfield 13, 3) ∧ 1 + 3 = 4 := ⟨by decide +kernel, rfl⟩
theorem d_Mo_square_4 : decode m_Mo_square.2.1 4 = .ok (.iload_n 1, 1) ∧ 4 + 1 = 5 := ⟨by decide +kernel, rfl⟩
theorem d_Mo_square_5 : decode m_Mo_square.2.1 5 = .ok (.iaload, 1) ∧ 5 + 1 = 6 := ⟨by decide +kernel, rfl⟩
theorem d_Mo_square_6 : decode m_Mo_square.2.1 6 = .ok (.invokestatic 123, 3) ∧ 6 + 3 = 9 := ⟨by decide +kernel, rfl⟩
theorem d_Mo_square_9 : decode m_Mo_square.2.1 9 = .ok (.ireturn, 1) := by decide +kernel
theorem d_Mo_slope_0 : decode m_Mo_slope.2.1 0 = .ok (.aload_n 0, 1) ∧ 0 + 1 = 1 := ⟨by decide +kernel, rfl⟩
theorem d_Mo_slope_1 : decode m_Mo_slope.2.1 1 = .ok (.getfield 13, 3) ∧ 1 + 3 = 4 := ⟨by decide +kernel, rfl⟩
theorem d_Mo_slope_4 : decode m_Mo_slope.2.1 4 = .ok (.iload_n 1, 1) ∧ 4 + 1 = 5 := ⟨by decide +kernel, rfl⟩
theorem d_Mo_slope_5 : decode m_Mo_slope.2.1 5 = .ok (.iaload, 1) ∧ 5 + 1 = 6 := ⟨by decide +kernel, rfl⟩
theorem d_Mo_slope_6 : decode m_Mo_slope.2.1 6 = .ok (.iconst 2, 1) ∧ 6 + 1 = 7 := ⟨by decide +kernel, rfl⟩
theorem d_Mo_slope_7 : decode m_Mo_slope.2.1 7 = .ok (.if_icmp .ne 7, 3) ∧ 7 + 3 = 10 ∧ (((7 : Nat) : Int) + (7) = ((14 : Nat) : Int)) := ⟨by decide +kernel, rfl, by decide⟩
theorem d_Mo_slope_10 : decode m_Mo_slope.2.1 10 = .ok (.iconst 0, 1) ∧ 10 + 1 = 11 := ⟨by decide +kernel, rfl⟩
theorem d_Mo_slope_11 : decode m_Mo_slope.2.1 11 = .ok (.goto 9, 3) ∧ (((11 : Nat) : Int) + (9) = ((20 : Nat) : Int)) := ⟨by decide +kernel, by decide⟩
theorem d_Mo_slope_14 : decode m_Mo_slope.2.1 14 = .ok (.aload_n 0, 1) ∧ 14 + 1 = 15 := ⟨by decide +kernel, rfl⟩
theorem d_Mo_slope_15 : decode m_Mo_slope.2.1 15 = .ok (.getfield 16, 3) ∧ 15 + 3 = 18 := ⟨by decide +kernel, rfl⟩
theorem d_Mo_slope_18 : decode m_Mo_slope.2.1 18 = .ok (.iload_n 1, 1) ∧ 18 + 1 = 19 := ⟨by decide +kernel, rfl⟩
theorem d_Mo_slope_19 : decode m_Mo_slope.2.1 19 = .ok (.iaload, 1) ∧ 19 + 1 = 20 := ⟨by decide +kernel, rfl⟩
theorem d_Mo_slope_20 : decode m_Mo_slope.2.1 20 = .ok (.ireturn, 1) := by decide +kernel
theorem d_Mo_isFlat_0 : decode m_Mo_isFlat.2.1 0 = .ok (.aload_n 0, 1) ∧ 0 + 1 = 1 := ⟨by decide +kernel, rfl⟩
theorem d_Mo_isFlat_1 : decode m_Mo_isFlat.2.1 1 = .ok (.getfield 13, 3) ∧ 1 + 3 = 4 := ⟨by decide +kernel, rfl⟩
theorem d_Mo_isFlat_4 : decode m_Mo_isFlat.2.1 4 = .ok (.iload_n 1, 1) ∧ 4 + 1 = 5 := ⟨by decide +kernel, rfl⟩
theorem d_Mo_isFlat_5 : decode m_Mo_isFlat.2.1 5 = .ok (.iaload, 1) ∧ 5 + 1 = 6 := ⟨by decide +kernel, rfl⟩
theorem d_Mo_isFlat_6 : decode m_Mo_isFlat.2.1 6 = .ok (.iconst 3, 1) ∧ 6 + 1 = 7 := ⟨by decide +kernel, rfl⟩
theorem d_Mo_isFlat_7 : decode m_Mo_isFlat.2.1 7 = .ok (.if_icmp .ne 7, 3) ∧ 7 + 3 = 10 ∧ (((7 : Nat) : Int) + (7) = ((14 : Nat) : Int)) := ⟨by decide +kernel, rfl, by decide⟩
theorem d_Mo_isFlat_10 : decode m_Mo_isFlat.2.1 10 = .ok (.iconst 1, 1) ∧ 10 + 1 = 11 := ⟨by decide +kernel, rfl⟩
theorem d_Mo_isFlat_11 : decode m_Mo_isFlat.2.1 11 = .ok (.goto 4, 3) ∧ (((11 : Nat) : Int) + (4) = ((15 : Nat) : Int)) := ⟨by decide +kernel, by decide⟩
theorem d_Mo_isFlat_14 : decode m_Mo_isFlat.2.1 14 = .ok (.iconst 0, 1) ∧ 14 + 1 = 15 := ⟨by decide +kernel, rfl⟩
theorem d_Mo_isFlat_15 : decode m_Mo_isFlat.2.1 15 = .ok (.ireturn, 1) := by decide +kernel
theorem d_Mo_isSame_0 : decode m_Mo_isSame.2.1 0 = .ok (.aload_n 0, 1) ∧ 0 + 1 = 1 := ⟨by decide +kernel, rfl⟩
theorem d_Mo_isSame_1 : decode m_Mo_isSame.2.1 1 = .ok (.iload_n 1, 1) ∧ 1 + 1 = 2 := ⟨by decide +kernel, rfl⟩
theorem d_Mo_isSame_2 : decode m_Mo_isSame.2.1 2 = .ok (.invokevirtual 126, 3) ∧ 2 + 3 = 5 := ⟨by decide +kernel, rfl⟩
theorem d_Mo_isSame_5 : decode m_Mo_isSame.2.1 5 = .ok (.aload_n 0, 1) ∧ 5 + 1 = 6 := ⟨by decide +kernel, rfl⟩
theorem d_Mo_isSame_6 : decode m_Mo_isSame.2.1 6 = .ok (.iload_n 2, 1) ∧ 6 + 1 = 7 := ⟨by decide +kernel, rfl⟩
theorem d_Mo_isSame_7 : decode m_Mo_isSame.2.1 7 = .ok (.invokevirtual 126, 3) ∧ 7 + 3 = 10 := ⟨by decide +kernel, rfl⟩
theorem d_Mo_isSame_10 : decode m_Mo_isSame.2.1 10 = .ok (.if_icmp .ne 35, 3) ∧ 10 + 3 = 13 ∧ (((10 : Nat) : Int) + (35) = ((45 : Nat) : Int)) := ⟨by decide +kernel, rfl, by decide⟩
theorem d_Mo_isSame_13 : decode m_Mo_isSame.2.1 13 = .ok (.aload_n 0, 1) ∧ 13 + 1 = 14 := ⟨by decide +kernel, rfl⟩
theorem d_Mo_isSame_14 : decode m_Mo_isSame.2.1 14 = .ok (.iload_n 1, 1) ∧ 14 + 1 = 15 := ⟨by decide +kernel, rfl⟩
theorem d_Mo_isSame_15 : decode m_Mo_isSame.2.1 15 = .ok (.invokevirtual 129, 3) ∧ 15 + 3 = 18 := ⟨by decide +kernel, rfl⟩
theorem d_Mo_isSame_18 : decode m_Mo_isSame.2.1 18 = .ok (.aload_n 0, 1) ∧ 18 + 1 = 19 := ⟨by decide +kernel, rfl⟩
theorem d_Mo_isSame_19 : decode m_Mo_isSame.2.1 19 = .ok (.iload_n 2, 1) ∧ 19 + 1 = 20 := ⟨by decide +kernel, rfl⟩
theorem d_Mo_isSame_20 : decode m_Mo_isSame.2.1 20 = .ok (.invokevirtual 129, 3) ∧ 20 + 3 = 23 := ⟨by decide +kernel, rfl⟩
theorem d_Mo_isSame_23 : decode m_Mo_isSame.2.1 23 = .ok (.if_icmp .ne 22, 3) ∧ 23 + 3 = 26 ∧ (((23 : Nat) : Int) + (22) = ((45 : Nat) : Int)) := ⟨by decide +kernel, rfl, by decide⟩
theorem d_Mo_isSame_26 : decode m_Mo_isSame.2.1 26 = .ok (.aload_n 0, 1) ∧ 26 + 1 = 27 := ⟨by decide +kernel, rfl⟩
theorem d_Mo_isSame_27 : decode m_Mo_isSame.2.1 27 = .ok (.getfield 19, 3) ∧ 27 + 3 = 30 := ⟨by decide +kernel, rfl⟩
theorem d_Mo_isSame_30 : decode m_Mo_isSame.2.1 30 = .ok (.iload_n 1, 1) ∧ 30 + 1 = 31 := ⟨by decide +kernel, rfl⟩
theorem d_Mo_isSame_31 : decode m_Mo_isSame.2.1 31 = .ok (.iaload, 1) ∧ 31 + 1 = 32 := ⟨by decide +kernel, rfl⟩
theorem d_Mo_isSame_32 : decode m_Mo_isSame.2.1 32 = .ok (.aload_n 0, 1) ∧ 32 + 1 = 33 := ⟨by decide +kernel, rfl⟩
theorem d_Mo_isSame_33 : decode m_Mo_isSame.2.1 33 = .ok (.getfield 19, 3) ∧ 33 + 3 = 36 := ⟨by decide +kernel, rfl⟩
theorem d_Mo_isSame_36 : decode m_Mo_isSame.2.1 36 = .ok (.iload_n 2, 1) ∧ 36 + 1 = 37 := ⟨by decide +kernel, rfl⟩
theorem d_Mo_isSame_37 : decode m_Mo_isSame.2.1 37 = .ok (.iaload, 1) ∧ 37 + 1 = 38 := ⟨by decide +kernel, rfl⟩
theorem d_Mo_isSame_38 : decode m_Mo_isSame.2.1 38 = .ok (.if_icmp .ne 7, 3) ∧ 38 + 3 = 41 ∧ (((38 : Nat) : Int) + (7) = ((45 : Nat) : Int)) := ⟨by decide +kernel, rfl, by decide⟩
theorem d_Mo_isSame_41 : decode m_Mo_isSame.2.1 41 = .ok (.iconst 1, 1) ∧ 41 + 1 = 42 := ⟨by decide +kernel, rfl⟩
theorem d_Mo_isSame_42 : decode m_Mo_isSame.2.1 42 = .ok (.goto 4, 3) ∧ (((42 : Nat) : Int) + (4) = ((46 : Nat) : Int)) := ⟨by decide +kernel, by decide⟩
theorem d_Mo_isSame_45 : decode m_Mo_isSame.2.1 45 = .ok (.iconst 0, 1) ∧ 45 + 1 = 46 := ⟨by decide +kernel, rfl⟩
theorem d_Mo_isSame_46 : decode m_Mo_isSame.2.1 46 = .ok (.ireturn, 1) := by decide +kernel
theorem d_Mo_signOf_0 : decode m_Mo_signOf.2.1 0 = .ok (.lload_n 0, 1) ∧ 0 + 1 = 1 := ⟨by decide +kernel, rfl⟩
theorem d_Mo_signOf_1 : decode m_Mo_signOf.2.1 1 = .ok (.lconst 0, 1) ∧ 1 + 1 = 2 := ⟨by decide +kernel, rfl⟩
theorem d_Mo_signOf_2 : decode m_Mo_signOf.2.1 2 = .ok (.lcmp, 1) ∧ 2 + 1 = 3 := ⟨by decide +kernel, rfl⟩
theorem d_Mo_signOf_3 : decode m_Mo_signOf.2.1 3 = .ok (.ifCond .le 7, 3) ∧ 3 + 3 = 6 ∧ (((3 : Nat) : Int) + (7) = ((10 : Nat) : Int)) := ⟨by decide +kernel, rfl, by decide⟩
theorem d_Mo_signOf_6 : decode m_Mo_signOf.2.1 6 = .ok (.iconst 1, 1) ∧ 6 + 1 = 7 := ⟨by decide +kernel, rfl⟩
theorem d_Mo_signOf_7 : decode m_Mo_signOf.2.1 7 = .ok (.goto 14, 3) ∧ (((7 : Nat) : Int) + (14) = ((21 : Nat) : Int)) := ⟨by decide +kernel, by decide⟩
theorem d_Mo_signOf_10 : decode m_Mo_signOf.2.1 10 = .ok (.lload_n 0, 1) ∧ 10 + 1 = 11 := ⟨by decide +kernel, rfl⟩
theorem d_Mo_signOf_11 : decode m_Mo_signOf.2.1 11 = .ok (.lconst 0, 1) ∧ 11 + 1 = 12 := ⟨by decide +kernel, rfl⟩
theorem d_Mo_signOf_12 : decode m_Mo_signOf.2.1 12 = .ok (.lcmp, 1) ∧ 12 + 1 = 13 := ⟨by decide +kernel, rfl⟩
theorem d_Mo_signOf_13 : decode m_Mo_signOf.2.1 13 = .ok (.ifCond .ge 7, 3) ∧ 13 + 3 = 16 ∧ (((13 : Nat) : Int) + (7) = ((20 : Nat) : Int)) := ⟨by decide +kernel, rfl, by decide⟩
theorem d_Mo_signOf_16 : decode m_Mo_signOf.2.1 16 = .ok (.iconst (-1), 1) ∧ 16 + 1 = 17 := ⟨by decide +kernel, rfl⟩
theorem d_Mo_signOf_17 : decode m_Mo_signOf.2.1 17 = .ok (.goto 4, 3) ∧ (((17 : Nat) : Int) + (4) = ((21 : Nat) : Int)) := ⟨by decide +kernel, by decide⟩
theorem d_Mo_signOf_20 : decode m_Mo_signOf.2.1 20 = .ok (.iconst 0, 1) ∧ 20 + 1 = 21 := ⟨by decide +kernel, rfl⟩
theorem d_Mo_signOf_21 : decode m_Mo_signOf.2.1 21 = .ok (.ireturn, 1) := by decide +kernel
theorem d_Mo_signRoot_0 : decode m_Mo_signRoot.2.1 0 = .ok (.lload_n 0, 1) ∧ 0 + 1 = 1 := ⟨by decide +kernel, rfl⟩
theorem d_Mo_signRoot_1 : decode m_Mo_signRoot.2.1 1 = .ok (.invokestatic 132, 3) ∧ 1 + 3 = 4 := ⟨by decide +kernel, rfl⟩
theorem d_Mo_signRoot_4 : decode m_Mo_signRoot.2.1 4 = .ok (.istore 6, 2) ∧ 4 + 2 = 6 := ⟨by decide +kernel, rfl⟩
theorem d_Mo_signRoot_6 : decode m_Mo_signRoot.2.1 6 = .ok (.lload 4, 2) ∧ 6 + 2 = 8 := ⟨by decide +kernel, rfl⟩
theorem d_Mo_signRoot_8 : decode m_Mo_signRoot.2.1 8 = .ok (.lconst 0, 1) ∧ 8 + 1 = 9 := ⟨by decide +kernel, rfl⟩
theorem d_Mo_signRoot_9 : decode m_Mo_signRoot.2.1 9 = .ok (.lcmp, 1) ∧ 9 + 1 = 10 := ⟨by decide +kernel, rfl⟩
theorem d_Mo_signRoot_10 : decode m_Mo_signRoot.2.1 10 = .ok (.ifCond .ne 7, 3) ∧ 10 + 3 = 13 ∧ (((10 : Nat) : Int) + (7) = ((17 : Nat) : Int)) := ⟨by decide +kernel, rfl, by decide⟩
theorem d_Mo_signRoot_13 : decode m_Mo_signRoot.2.1 13 = .ok (.iconst 0, 1) ∧ 13 + 1 = 14 := ⟨by decide +kernel, rfl⟩
theorem d_Mo_signRoot_14 : decode m_Mo_signRoot.2.1 14 = .ok (.goto 7, 3) ∧ (((14 : Nat) : Int) + (7) = ((21 : Nat) : Int)) := ⟨by decide +kernel, by decide⟩
theorem d_Mo_signRoot_17 : decode m_Mo_signRoot.2.1 17 = .ok (.lload_n 2, 1) ∧ 17 + 1 = 18 := ⟨by decide +kernel, rfl⟩
theorem d_Mo_signRoot_18 : decode m_Mo_signRoot.2.1 18 = .ok (.invokestatic 132, 3) ∧ 18 + 3 = 21 := ⟨by decide +kernel, rfl⟩
theorem d_Mo_signRoot_21 : decode m_Mo_signRoot.2.1 21 = .ok (.istore 7, 2) ∧ 21 + 2 = 23 := ⟨by decide +kernel, rfl⟩
theorem d_Mo_signRoot_23 : decode m_Mo_signRoot.2.1 23 = .ok (.iload 6, 2) ∧ 23 + 2 = 25 := ⟨by decide +kernel, rfl⟩
theorem d_Mo_signRoot_25 : decode m_Mo_signRoot.2.1 25 = .ok (.ifCond .eq 15, 3) ∧ 25 + 3 = 28 ∧ (((25 : Nat) : Int) + (15) = ((40 : Nat) : Int)) := ⟨by decide +kernel, rfl, by decide⟩
theorem d_Mo_signRoot_28 : decode m_Mo_signRoot.2.1 28 = .ok (.iload 7, 2) ∧ 28 + 2 = 30 := ⟨by decide +kernel, rfl⟩
theorem d_Mo_signRoot_30 : decode m_Mo_signRoot.2.1 30 = .ok (.ifCond .eq 10, 3) ∧ 30 + 3 = 33 ∧ (((30 : Nat) : Int) + (10) = ((40 : Nat) : Int)) := ⟨by decide +kernel, rfl, by decide⟩
theorem d_Mo_signRoot_33 : decode m_Mo_signRoot.2.1 33 = .ok (.iload 6, 2) ∧ 33 + 2 = 35 := ⟨by decide +kernel, rfl⟩
theorem d_Mo_signRoot_35 : decode m_Mo_signRoot.2.1 35 = .ok (.iload 7, 2) ∧ 35 + 2 = 37 := ⟨by decide +kernel, rfl⟩
theorem d_Mo_signRoot_37 : decode m_Mo_signRoot.2.1 37 = .ok (.if_icmp .ne 16, 3) ∧ 37 + 3 = 40 ∧ (((37 : Nat) : Int) + (16) = ((53 : Nat) : Int)) := ⟨by decide +kernel, rfl, by decide⟩
theorem d_Mo_signRoot_40 : decode m_Mo_signRoot.2.1 40 = .ok (.iload 6, 2) ∧ 40 + 2 = 42 := ⟨by decide +kernel, rfl⟩
theorem d_Mo_signRoot_42 : decode m_Mo_signRoot.2.1 42 = .ok (.ifCond .ne 8, 3) ∧ 42 + 3 = 45 ∧ (((42 : Nat) : Int) + (8) = ((50 : Nat) : Int)) := ⟨by decide +kernel, rfl, by decide⟩
theorem d_Mo_signRoot_45 : decode m_Mo_signRoot.2.1 45 = .ok (.iload 7, 2) ∧ 45 + 2 = 47 := ⟨by decide +kernel, rfl⟩
theorem d_Mo_signRoot_47 : decode m_Mo_signRoot.2.1 47 = .ok (.goto 5, 3) ∧ (((47 : Nat) : Int) + (5) = ((52 : Nat) : Int)) := ⟨by decide +kernel, by decide⟩
theorem d_Mo_signRoot_50 : decode m_Mo_signRoot.2.1 50 = .ok (.iload 6, 2) ∧ 50 + 2 = 52 := ⟨by decide +kernel, rfl⟩
theorem d_Mo_signRoot_52 : decode m_Mo_signRoot.2.1 52 = .ok (.ireturn, 1) := by decide +kernel
theorem d_Mo_signRoot_53 : decode m_Mo_signRoot.2.1 53 = .ok (.lload_n 0, 1) ∧ 53 + 1 = 54 := ⟨by decide +kernel, rfl⟩
theorem d_Mo_signRoot_54 : decode m_Mo_signRoot.2.1 54 = .ok (.lload_n 0, 1) ∧ 54 + 1 = 55 := ⟨by decide +kernel, rfl⟩
theorem d_Mo_signRoot_55 : decode m_Mo_signRoot.2.1 55 = .ok (.lmul, 1) ∧ 55 + 1 = 56 := ⟨by decide +kernel, rfl⟩
theorem d_Mo_signRoot_56 : decode m_Mo_signRoot.2.1 56 = .ok (.lload_n 2, 1) ∧ 56 + 1 = 57 := ⟨by decide +kernel, rfl⟩
theorem d_Mo_signRoot_57 : decode m_Mo_signRoot.2.1 57 = .ok (.lload_n 2, 1) ∧ 57 + 1 = 58 := ⟨by decide +kernel, rfl⟩
theorem d_Mo_signRoot_58 : decode m_Mo_signRoot.2.1 58 = .ok (.lmul, 1) ∧ 58 + 1 = 59 := ⟨by decide +kernel, rfl⟩
theorem d_Mo_signRoot_59 : decode m_Mo_signRoot.2.1 59 = .ok (.lload 4, 2) ∧ 59 + 2 = 61 := ⟨by decide +kernel, rfl⟩
theorem d_Mo_signRoot_61 : decode m_Mo_signRoot.2.1 61 = .ok (.lmul, 1) ∧ 61 + 1 = 62 := ⟨by decide +kernel, rfl⟩
theorem d_Mo_signRoot_62 : decode m_Mo_signRoot.2.1 62 = .ok (.lsub, 1) ∧ 62 + 1 = 63 := ⟨by decide +kernel, rfl⟩
theorem d_Mo_signRoot_63 : decode m_Mo_signRoot.2.1 63 = .ok (.invokestatic 132, 3) ∧ 63 + 3 = 66 := ⟨by decide +kernel, rfl⟩
theorem d_Mo_signRoot_66 : decode m_Mo_signRoot.2.1 66 = .ok (.istore 8, 2) ∧ 66 + 2 = 68 := ⟨by decide +kernel, rfl⟩
theorem d_Mo_signRoot_68 : decode m_Mo_signRoot.2.1 68 = .ok (.iload 8, 2) ∧ 68 + 2 = 70 := ⟨by decide +kernel, rfl⟩
theorem d_Mo_signRoot_70 : decode m_Mo_signRoot.2.1 70 = .ok (.ifCond .le 8, 3) ∧ 70 + 3 = 73 ∧ (((70 : Nat) : Int) + (8) = ((78 : Nat) : Int)) := ⟨by decide +kernel, rfl, by decide⟩
theorem d_Mo_signRoot_73 : decode m_Mo_signRoot.2.1 73 = .ok (.iload 6, 2) ∧ 73 + 2 = 75 := ⟨by decide +kernel, rfl⟩
theorem d_Mo_signRoot_75 : decode m_Mo_signRoot.2.1 75 = .ok (.goto 14, 3) ∧ (((75 : Nat) : Int) + (14) = ((89 : Nat) : Int)) := ⟨by decide +kernel, by decide⟩
theorem d_Mo_signRoot_78 : decode m_Mo_signRoot.2.1 78 = .ok (.iload 8, 2) ∧ 78 + 2 = 80 := ⟨by decide +kernel, rfl⟩
theorem d_Mo_signRoot_80 : decode m_Mo_signRoot.2.1 80 = .ok (.ifCond .ge 8, 3) ∧ 80 + 3 = 83 ∧ (((80 : Nat) : Int) + (8) = ((88 : Nat) : Int)) := ⟨by decide +kernel, rfl, by decide⟩
theorem d_Mo_signRoot_83 : decode m_Mo_signRoot.2.1 83 = .ok (.iload 7, 2) ∧ 83 + 2 = 85 := ⟨by decide +kernel, rfl⟩
theorem d_Mo_signRoot_85 : decode m_Mo_signRoot.2.1 85 = .ok (.goto 4, 3) ∧ (((85 : Nat) : Int) + (4) = ((89 : Nat) : Int)) := ⟨by decide +kernel, by decide⟩
theorem d_Mo_signRoot_88 : decode m_Mo_signRoot.2.1 88 = .ok (.iconst 0, 1) ∧ 88 + 1 = 89 := ⟨by decide +kernel, rfl⟩
theorem d_Mo_signRoot_89 : decode m_Mo_signRoot.2.1 89 = .ok (.ireturn, 1) := by decide +kernel
theorem d_Mo_signRoots_0 : decode m_Mo_signRoots.2.1 0 = .ok (.lload 4, 2) ∧ 0 + 2 = 2 := ⟨by decide +kernel, rfl⟩
theorem d_Mo_signRoots_2 : decode m_Mo_signRoots.2.1 2 = .ok (.lload 8, 2) ∧ 2 + 2 = 4 := ⟨by decide +kernel, rfl⟩
theorem d_Mo_signRoots_4 : decode m_Mo_signRoots.2.1 4 = .ok (.lcmp, 1) ∧ 4 + 1 = 5 := ⟨by decide +kernel, rfl⟩
theorem d_Mo_signRoots_5 : decode m_Mo_signRoots.2.1 5 = .ok (.ifCond .ne 14, 3) ∧ 5 + 3 = 8 ∧ (((5 : Nat) : Int) + (14) = ((19 : Nat) : Int)) := ⟨by decide +kernel, rfl, by decide⟩
theorem d_Mo_signRoots_8 : decode m_Mo_signRoots.2.1 8 = .ok (.lload_n 0, 1) ∧ 8 + 1 = 9 := ⟨by decide +kernel, rfl⟩
theorem d_Mo_signRoots_9 : decode m_Mo_signRoots.2.1 9 = .ok (.lload_n 2, 1) ∧ 9 + 1 = 10 := ⟨by decide +kernel, rfl⟩
theorem d_Mo_signRoots_10 : decode m_Mo_signRoots.2.1 10 = .ok (.lload 6, 2) ∧ 10 + 2 = 12 := ⟨by decide +kernel, rfl⟩
theorem d_Mo_signRoots_12 : decode m_Mo_signRoots.2.1 12 = .ok (.ladd, 1) ∧ 12 + 1 = 13 := ⟨by decide +kernel, rfl⟩
theorem d_Mo_signRoots_13 : decode m_Mo_signRoots.2.1 13 = .ok (.lload 4, 2) ∧ 13 + 2 = 15 := ⟨by decide +kernel, rfl⟩
theorem d_Mo_signRoots_15 : decode m_Mo_signRoots.2.1 15 = .ok (.invokestatic 136, 3) ∧ 15 + 3 = 18 := ⟨by decide +kernel, rfl⟩
theorem d_Mo_signRoots_18 : decode m_Mo_signRoots.2.1 18 = .ok (.ireturn, 1) := by decide +kernel
theorem d_Mo_signRoots_19 : decode m_Mo_signRoots.2.1 19 = .ok (.lload_n 0, 1) ∧ 19 + 1 = 20 := ⟨by decide +kernel, rfl⟩
theorem d_Mo_signRoots_20 : decode m_Mo_signRoots.2.1 20 = .ok (.invokestatic 132, 3) ∧ 20 + 3 = 23 := ⟨by decide +kernel, rfl⟩
theorem d_Mo_signRoots_23 : decode m_Mo_signRoots.2.1 23 = .ok (.istore 10, 2) ∧ 23 + 2 = 25 := ⟨by decide +kernel, rfl⟩
theorem d_Mo_signRoots_25 : decode m_Mo_signRoots.2.1 25 = .ok (.lload 4, 2) ∧ 25 + 2 = 27 := ⟨by decide +kernel, rfl⟩
theorem d_Mo_signRoots_27 : decode m_Mo_signRoots.2.1 27 = .ok (.lconst 0, 1) ∧ 27 + 1 = 28 := ⟨by decide +kernel, rfl⟩
theorem d_Mo_signRoots_28 : decode m_Mo_signRoots.2.1 28 = .ok (.lcmp, 1) ∧ 28 + 1 = 29 := ⟨by decide +kernel, rfl⟩
theorem d_Mo_signRoots_29 : decode m_Mo_signRoots.2.1 29 = .ok (.ifCond .ne 7, 3) ∧ 29 + 3 = 32 ∧ (((29 : Nat) : Int) + (7) = ((36 : Nat) : Int)) := ⟨by decide +kernel, rfl, by decide⟩
theorem d_Mo_signRoots_32 : decode m_Mo_signRoots.2.1 32 = .ok (.iconst 0, 1) ∧ 32 + 1 = 33 := ⟨by decide +kernel, rfl⟩
theorem d_Mo_signRoots_33 : decode m_Mo_signRoots.2.1 33 = .ok (.goto 7, 3) ∧ (((33 : Nat) : Int) + (7) = ((40 : Nat) : Int)) := ⟨by decide +kernel, by decide⟩
theorem d_Mo_signRoots_36 : decode m_Mo_signRoots.2.1 36 = .ok (.lload_n 2, 1) ∧ 36 + 1 = 37 := ⟨by decide +kernel, rfl⟩
theorem d_Mo_signRoots_37 : decode m_Mo_signRoots.2.1 37 = .ok (.invokestatic 132, 3) ∧ 37 + 3 = 40 := ⟨by decide +kernel, rfl⟩
theorem d_Mo_signRoots_40 : decode m_Mo_signRoots.2.1 40 = .ok (.istore 11, 2) ∧ 40 + 2 = 42 := ⟨by decide +kernel, rfl⟩
theorem d_Mo_signRoots_42 : decode m_Mo_signRoots.2.1 42 = .ok (.lload 8, 2) ∧ 42 + 2 = 44 := ⟨by decide +kernel, rfl⟩
theorem d_Mo_signRoots_44 : decode m_Mo_signRoots.2.1 44 = .ok (.lconst 0, 1) ∧ 44 + 1 = 45 := ⟨by decide +kernel, rfl⟩
theorem d_Mo_signRoots_45 : decode m_Mo_signRoots.2.1 45 = .ok (.lcmp, 1) ∧ 45 + 1 = 46 := ⟨by decide +kernel, rfl⟩
theorem d_Mo_signRoots_46 : decode m_Mo_signRoots.2.1 46 = .ok (.ifCond .ne 7, 3) ∧ 46 + 3 = 49 ∧ (((46 : Nat) : Int) + (7) = ((53 : Nat) : Int)) := ⟨by decide +kernel, rfl, by decide⟩
theorem d_Mo_signRoots_49 : decode m_Mo_signRoots.2.1 49 = .ok (.iconst 0, 1) ∧ 49 + 1 = 50 := ⟨by decide +kernel, rfl⟩
theorem d_Mo_signRoots_50 : decode m_Mo_signRoots.2.1 50 = .ok (.goto 8, 3) ∧ (((50 : Nat) : Int) + (8) = ((58 : Nat) : Int)) := ⟨by decide +kernel, by decide⟩
theorem d_Mo_signRoots_53 : decode m_Mo_signRoots.2.1 53 = .ok (.lload 6, 2) ∧ 53 + 2 = 55 := ⟨by decide +kernel, rfl⟩
theorem d_Mo_signRoots_55 : decode m_Mo_signRoots.2.1 55 = .ok (.invokestatic 132, 3) ∧ 55 + 3 = 58 := ⟨by decide +kernel, rfl⟩
theorem d_Mo_signRoots_58 : decode m_Mo_signRoots.2.1 58 = .ok (.istore 12, 2) ∧ 58 + 2 = 60 := ⟨by decide +kernel, rfl⟩
theorem d_Mo_signRoots_60 : decode m_Mo_signRoots.2.1 60 = .ok (.lload_n 2, 1) ∧ 60 + 1 = 61 := ⟨by decide +kernel, rfl⟩
theorem d_Mo_signRoots_61 : decode m_Mo_signRoots.2.1 61 = .ok (.lload_n 2, 1) ∧ 61 + 1 = 62 := ⟨by decide +kernel, rfl⟩
theorem d_Mo_signRoots_62 : decode m_Mo_signRoots.2.1 62 = .ok (.lmul, 1) ∧ 62 + 1 = 63 := ⟨by decide +kernel, rfl⟩
theorem d_Mo_signRoots_63 : decode m_Mo_signRoots.2.1 63 = .ok (.lload 4, 2) ∧ 63 + 2 = 65 := ⟨by decide +kernel, rfl⟩
theorem d_Mo_signRoots_65 : decode m_Mo_signRoots.2.1 65 = .ok (.lmul, 1) ∧ 65 + 1 = 66 := ⟨by decide +kernel, rfl⟩
theorem d_Mo_signRoots_66 : decode m_Mo_signRoots.2.1 66 = .ok (.lload 6, 2) ∧ 66 + 2 = 68 := ⟨by decide +kernel, rfl⟩
theorem d_Mo_signRoots_68 : decode m_Mo_signRoots.2.1 68 = .ok (.lload 6, 2) ∧ 68 + 2 = 70 := ⟨by decide +kernel, rfl⟩
theorem d_Mo_signRoots_70 : decode m_Mo_signRoots.2.1 70 = .ok (.lmul, 1) ∧ 70 + 1 = 71 := ⟨by decide +kernel, rfl⟩
theorem d_Mo_signRoots_71 : decode m_Mo_signRoots.2.1 71 = .ok (.lload 8, 2) ∧ 71 + 2 = 73 := ⟨by decide +kernel, rfl⟩
theorem d_Mo_signRoots_73 : decode m_Mo_signRoots.2.1 73 = .ok (.lmul, 1) ∧ 73 + 1 = 74 := ⟨by decide +kernel, rfl⟩
theorem d_Mo_signRoots_74 : decode m_Mo_signRoots.2.1 74 = .ok (.lsub, 1) ∧ 74 + 1 = 75 := ⟨by decide +kernel, rfl⟩
theorem d_Mo_signRoots_75 : decode m_Mo_signRoots.2.1 75 = .ok (.invokestatic 132, 3) ∧ 75 + 3 = 78 := ⟨by decide +kernel, rfl⟩
theorem d_Mo_signRoots_78 : decode m_Mo_signRoots.2.1 78 = .ok (.istore 13, 2) ∧ 78 + 2 = 80 := ⟨by decide +kernel, rfl⟩
theorem d_Mo_signRoots_80 : decode m_Mo_signRoots.2.1 80 = .ok (.iload 11, 2) ∧ 80 + 2 = 82 := ⟨by decide +kernel, rfl⟩
theorem d_Mo_signRoots_82 : decode m_Mo_signRoots.2.1 82 = .ok (.ifCond .eq 15, 3) ∧ 82 + 3 = 85 ∧ (((82 : Nat) : Int) + (15) = ((97 : Nat) : Int)) := ⟨by decide +kernel, rfl, by decide⟩
theorem d_Mo_signRoots_85 : decode m_Mo_signRoots.2.1 85 = .ok (.iload 12, 2) ∧ 85 + 2 = 87 := ⟨by decide +kernel, rfl⟩
theorem d_Mo_signRoots_87 : decode m_Mo_signRoots.2.1 87 = .ok (.ifCond .eq 10, 3) ∧ 87 + 3 = 90 ∧ (((87 : Nat) : Int) + (10) = ((97 : Nat) : Int)) := ⟨by decide +kernel, rfl, by decide⟩
theorem d_Mo_signRoots_90 : decode m_Mo_signRoots.2.1 90 = .ok (.iload 11, 2) ∧ 90 + 2 = 92 := ⟨by decide +kernel, rfl⟩
theorem d_Mo_signRoots_92 : decode m_Mo_signRoots.2.1 92 = .ok (.iload 12, 2) ∧ 92 + 2 = 94 := ⟨by decide +kernel, rfl⟩
theorem d_Mo_signRoots_94 : decode m_Mo_signRoots.2.1 94 = .ok (.if_icmp .ne 18, 3) ∧ 94 + 3 = 97 ∧ (((94 : Nat) : Int) + (18) = ((112 : Nat) : Int)) := ⟨by decide +kernel, rfl, by decide⟩
theorem d_Mo_signRoots_97 : decode m_Mo_signRoots.2.1 97 = .ok (.iload 11, 2) ∧ 97 + 2 = 99 := ⟨by decide +kernel, rfl⟩
theorem d_Mo_signRoots_99 : decode m_Mo_signRoots.2.1 99 = .ok (.ifCond .ne 8, 3) ∧ 99 + 3 = 102 ∧ (((99 : Nat) : Int) + (8) = ((107 : Nat) : Int)) := ⟨by decide +kernel, rfl, by decide⟩
theorem d_Mo_signRoots_102 : decode m_Mo_signRoots.2.1 102 = .ok (.iload 12, 2) ∧ 102 + 2 = 104 := ⟨by decide +kernel, rfl⟩
theorem d_Mo_signRoots_104 : decode m_Mo_signRoots.2.1 104 = .ok (.goto 29, 3) ∧ (((104 : Nat) : Int) + (29) = ((133 : Nat) : Int)) := ⟨by decide +kernel, by decide⟩
theorem d_Mo_signRoots_107 : decode m_Mo_signRoots.2.1 107 = .ok (.iload 11, 2) ∧ 107 + 2 = 109 := ⟨by decide +kernel, rfl⟩
theorem d_Mo_signRoots_109 : decode m_Mo_signRoots.2.1 109 = .ok (.goto 24, 3) ∧ (((109 : Nat) : Int) + (24) = ((133 : Nat) : Int)) := ⟨by decide +kernel, by decide⟩
theorem d_Mo_signRoots_112 : decode m_Mo_signRoots.2.1 112 = .ok (.iload 13, 2) ∧ 112 + 2 = 114 := ⟨by decide +kernel, rfl⟩
theorem d_Mo_signRoots_114 : decode m_Mo_signRoots.2.1 114 = .ok (.ifCond .le 8, 3) ∧ 114 + 3 = 117 ∧ (((114 : Nat) : Int) + (8) = ((122 : Nat) : Int)) := ⟨by decide +kernel, rfl, by decide⟩
theorem d_Mo_signRoots_117 : decode m_Mo_signRoots.2.1 117 = .ok (.iload 11, 2) ∧ 117 + 2 = 119 := ⟨by decide +kernel, rfl⟩
theorem d_Mo_signRoots_119 : decode m_Mo_signRoots.2.1 119 = .ok (.goto 14, 3) ∧ (((119 : Nat) : Int) + (14) = ((133 : Nat) : Int)) := ⟨by decide +kernel, by decide⟩
theorem d_Mo_signRoots_122 : decode m_Mo_signRoots.2.1 122 = .ok (.iload 13, 2) ∧ 122 + 2 = 124 := ⟨by decide +kernel, rfl⟩
theorem d_Mo_signRoots_124 : decode m_Mo_signRoots.2.1 124 = .ok (.ifCond .ge 8, 3) ∧ 124 + 3 = 127 ∧ (((124 : Nat) : Int) + (8) = ((132 : Nat) : Int)) := ⟨by decide +kernel, rfl, by decide⟩
theorem d_Mo_signRoots_127 : decode m_Mo_signRoots.2.1 127 = .ok (.iload 12, 2) ∧ 127 + 2 = 129 := ⟨by decide +kernel, rfl⟩
theorem d_Mo_signRoots_129 : decode m_Mo_signRoots.2.1 129 = .ok (.goto 4, 3) ∧ (((129 : Nat) : Int) + (4) = ((133 : Nat) : Int)) := ⟨by decide +kernel, by decide⟩
theorem d_Mo_signRoots_132 : decode m_Mo_signRoots.2.1 132 = .ok (.iconst 0, 1) ∧ 132 + 1 = 133 := ⟨by decide +kernel, rfl⟩
theorem d_Mo_signRoots_133 : decode m_Mo_signRoots.2.1 133 = .ok (.istore 14, 2) ∧ 133 + 2 = 135 := ⟨by decide +kernel, rfl⟩
theorem d_Mo_signRoots_135 : decode m_Mo_signRoots.2.1 135 = .ok (.iload 10, 2) ∧ 135 + 2 = 137 := ⟨by decide +kernel, rfl⟩
theorem d_Mo_signRoots_137 : decode m_Mo_signRoots.2.1 137 = .ok (.ifCond .eq 15, 3) ∧ 137 + 3 = 140 ∧ (((137 : Nat) : Int) + (15) = ((152 : Nat) : Int)) := ⟨by decide +kernel, rfl, by decide⟩
theorem d_Mo_signRoots_140 : decode m_Mo_signRoots.2.1 140 = .ok (.iload 14, 2) ∧ 140 + 2 = 142 := ⟨by decide +kernel, rfl⟩
theorem d_Mo_signRoots_142 : decode m_Mo_signRoots.2.1 142 = .ok (.ifCond .eq 10, 3) ∧ 142 + 3 = 145 ∧ (((142 : Nat) : Int) + (10) = ((152 : Nat) : Int)) := ⟨by decide +kernel, rfl, by decide⟩
theorem d_Mo_signRoots_145 : decode m_Mo_signRoots.2.1 145 = .ok (.iload 10, 2) ∧ 145 + 2 = 147 := ⟨by decide +kernel, rfl⟩
theorem d_Mo_signRoots_147 : decode m_Mo_signRoots.2.1 147 = .ok (.iload 14, 2) ∧ 147 + 2 = 149 := ⟨by decide +kernel, rfl⟩
theorem d_Mo_signRoots_149 : decode m_Mo_signRoots.2.1 149 = .ok (.if_icmp .ne 16, 3) ∧ 149 + 3 = 152 ∧ (((149 : Nat) : Int) + (16) = ((165 : Nat) : Int)) := ⟨by decide +kernel, rfl, by decide⟩
theorem d_Mo_signRoots_152 : decode m_Mo_signRoots.2.1 152 = .ok (.iload 10, 2) ∧ 152 + 2 = 154 := ⟨by decide +kernel, rfl⟩
theorem d_Mo_signRoots_154 : decode m_Mo_signRoots.2.1 154 = .ok (.ifCond .ne 8, 3) ∧ 154 + 3 = 157 ∧ (((154 : Nat) : Int) + (8) = ((162 : Nat) : Int)) := ⟨by decide +kernel, rfl, by decide⟩
theorem d_Mo_signRoots_157 : decode m_Mo_signRoots.2.1 157 = .ok (.iload 14, 2) ∧ 157 + 2 = 159 := ⟨by decide +kernel, rfl⟩
theorem d_Mo_signRoots_159 : decode m_Mo_signRoots.2.1 159 = .ok (.goto 5, 3) ∧ (((159 : Nat) : Int) + (5) = ((164 : Nat) : Int)) := ⟨by decide +kernel, by decide⟩
theorem d_Mo_signRoots_162 : decode m_Mo_signRoots.2.1 162 = .ok (.iload 10, 2) ∧ 162 + 2 = 164 := ⟨by decide +kernel, rfl⟩
theorem d_Mo_signRoots_164 : decode m_Mo_signRoots.2.1 164 = .ok (.ireturn, 1) := by decide +kernel
theorem d_Mo_signRoots_165 : decode m_Mo_signRoots.2.1 165 = .ok (.lload_n 0, 1) ∧ 165 + 1 = 166 := ⟨by decide +kernel, rfl⟩
theorem d_Mo_signRoots_166 : decode m_Mo_signRoots.2.1 166 = .ok (.lload_n 0, 1) ∧ 166 + 1 = 167 := ⟨by decide +kernel, rfl⟩
theorem d_Mo_signRoots_167 : decode m_Mo_signRoots.2.1 167 = .ok (.lmul, 1) ∧ 167 + 1 = 168 := ⟨by decide +kernel, rfl⟩
theorem d_Mo_signRoots_168 : decode m_Mo_signRoots.2.1 168 = .ok (.lload_n 2, 1) ∧ 168 + 1 = 169 := ⟨by decide +kernel, rfl⟩
theorem d_Mo_signRoots_169 : decode m_Mo_signRoots.2.1 169 = .ok (.lload_n 2, 1) ∧ 169 + 1 = 170 := ⟨by decide +kernel, rfl⟩
theorem d_Mo_signRoots_170 : decode m_Mo_signRoots.2.1 170 = .ok (.lmul, 1) ∧ 170 + 1 = 171 := ⟨by decide +kernel, rfl⟩
theorem d_Mo_signRoots_171 : decode m_Mo_signRoots.2.1 171 = .ok (.lload 4, 2) ∧ 171 + 2 = 173 := ⟨by decide +kernel, rfl⟩
theorem d_Mo_signRoots_173 : decode m_Mo_signRoots.2.1 173 = .ok (.lmul, 1) ∧ 173 + 1 = 174 := ⟨by decide +kernel, rfl⟩
theorem d_Mo_signRoots_174 : decode m_Mo_signRoots.2.1 174 = .ok (.lsub, 1) ∧ 174 + 1 = 175 := ⟨by decide +kernel, rfl⟩
theorem d_Mo_signRoots_175 : decode m_Mo_signRoots.2.1 175 = .ok (.lload 6, 2) ∧ 175 + 2 = 177 := ⟨by decide +kernel, rfl⟩
theorem d_Mo_signRoots_177 : decode m_Mo_signRoots.2.1 177 = .ok (.lload 6, 2) ∧ 177 + 2 = 179 := ⟨by decide +kernel, rfl⟩
theorem d_Mo_signRoots_179 : decode m_Mo_signRoots.2.1 179 = .ok (.lmul, 1) ∧ 179 + 1 = 180 := ⟨by decide +kernel, rfl⟩
theorem d_Mo_signRoots_180 : decode m_Mo_signRoots.2.1 180 = .ok (.lload 8, 2) ∧ 180 + 2 = 182 := ⟨by decide +kernel, rfl⟩
theorem d_Mo_signRoots_182 : decode m_Mo_signRoots.2.1 182 = .ok (.lmul, 1) ∧ 182 + 1 = 183 := ⟨by decide +kernel, rfl⟩
theorem d_Mo_signRoots_183 : decode m_Mo_signRoots.2.1 183 = .ok (.lsub, 1) ∧ 183 + 1 = 184 := ⟨by decide +kernel, rfl⟩
theorem d_Mo_signRoots_184 : decode m_Mo_signRoots.2.1 184 = .ok (.ldc2_w 140, 3) ∧ 184 + 3 = 187 := ⟨by decide +kernel, rfl⟩
theorem d_Mo_signRoots_187 : decode m_Mo_signRoots.2.1 187 = .ok (.lload_n 2, 1) ∧ 187 + 1 = 188 := ⟨by decide +kernel, rfl⟩
theorem d_Mo_signRoots_188 : decode m_Mo_signRoots.2.1 188 = .ok (.lmul, 1) ∧ 188 + 1 = 189 := ⟨by decide +kernel, rfl⟩
theorem d_Mo_signRoots_189 : decode m_Mo_signRoots.2.1 189 = .ok (.lload 6, 2) ∧ 189 + 2 = 191 := ⟨by decide +kernel, rfl⟩
theorem d_Mo_signRoots_191 : decode m_Mo_signRoots.2.1 191 = .ok (.lmul, 1) ∧ 191 + 1 = 192 := ⟨by decide +kernel, rfl⟩
theorem d_Mo_signRoots_192 : decode m_Mo_signRoots.2.1 192 = .ok (.lload 4, 2) ∧ 192 + 2 = 194 := ⟨by decide +kernel, rfl⟩
theorem d_Mo_signRoots_194 : decode m_Mo_signRoots.2.1 194 = .ok (.lload 8, 2) ∧ 194 + 2 = 196 := ⟨by decide +kernel, rfl⟩
theorem d_Mo_signRoots_196 : decode m_Mo_signRoots.2.1 196 = .ok (.lmul, 1) ∧ 196 + 1 = 197 := ⟨by decide +kernel, rfl⟩
theorem d_Mo_signRoots_197 : decode m_Mo_signRoots.2.1 197 = .ok (.invokestatic 136, 3) ∧ 197 + 3 = 200 := ⟨by decide +kernel, rfl⟩
theorem d_Mo_signRoots_200 : decode m_Mo_signRoots.2.1 200 = .ok (.istore 15, 2) ∧ 200 + 2 = 202 := ⟨by decide +kernel, rfl⟩
theorem d_Mo_signRoots_202 : decode m_Mo_signRoots.2.1 202 = .ok (.iload 15, 2) ∧ 202 + 2 = 204 := ⟨by decide +kernel, rfl⟩
theorem d_Mo_signRoots_204 : decode m_Mo_signRoots.2.1 204 = .ok (.ifCond .le 8, 3) ∧ 204 + 3 = 207 ∧ (((204 : Nat) : Int) + (8) = ((212 : Nat) : Int)) := ⟨by decide +kernel, rfl, by decide⟩
theorem d_Mo_signRoots_207 : decode m_Mo_signRoots.2.1 207 = .ok (.iload 10, 2) ∧ 207 + 2 = 209 := ⟨by decide +kernel, rfl⟩
theorem d_Mo_signRoots_209 : decode m_Mo_signRoots.2.1 209 = .ok (.goto 14, 3) ∧ (((209 : Nat) : Int) + (14) = ((223 : Nat) : Int)) := ⟨by decide +kernel, by decide⟩
theorem d_Mo_signRoots_212 : decode m_Mo_signRoots.2.1 212 = .ok (.iload 15, 2) ∧ 212 + 2 = 214 := ⟨by decide +kernel, rfl⟩
theorem d_Mo_signRoots_214 : decode m_Mo_signRoots.2.1 214 = .ok (.ifCond .ge 8, 3) ∧ 214 + 3 = 217 ∧ (((214 : Nat) : Int) + (8) = ((222 : Nat) : Int)) := ⟨by decide +kernel, rfl, by decide⟩
theorem d_Mo_signRoots_217 : decode m_Mo_signRoots.2.1 217 = .ok (.iload 14, 2) ∧ 217 + 2 = 219 := ⟨by decide +kernel, rfl⟩
theorem d_Mo_signRoots_219 : decode m_Mo_signRoots.2.1 219 = .ok (.goto 4, 3) ∧ (((219 : Nat) : Int) + (4) = ((223 : Nat) : Int)) := ⟨by decide +kernel, by decide⟩
theorem d_Mo_signRoots_222 : decode m_Mo_signRoots.2.1 222 = .ok (.iconst 0, 1) ∧ 222 + 1 = 223 := ⟨by decide +kernel, rfl⟩
theorem d_Mo_signRoots_223 : decode m_Mo_signRoots.2.1 223 = .ok (.ireturn, 1) := by decide +kernel
theorem d_Mo_layNumber_0 : decode m_Mo_layNumber.2.1 0 = .ok (.lload 8, 2) ∧ 0 + 2 = 2 := ⟨by decide +kernel, rfl⟩
theorem d_Mo_layNumber_2 : decode m_Mo_layNumber.2.1 2 = .ok (.lconst 0, 1) ∧ 2 + 1 = 3 := ⟨by decide +kernel, rfl⟩
theorem d_Mo_layNumber_3 : decode m_Mo_layNumber.2.1 3 = .ok (.lcmp, 1) ∧ 3 + 1 = 4 := ⟨by decide +kernel, rfl⟩
theorem d_Mo_layNumber_4 : decode m_Mo_layNumber.2.1 4 = .ok (.ifCond .ge 7, 3) ∧ 4 + 3 = 7 ∧ (((4 : Nat) : Int) + (7) = ((11 : Nat) : Int)) := ⟨by decide +kernel, rfl, by decide⟩
theorem d_Mo_layNumber_7 : decode m_Mo_layNumber.2.1 7 = .ok (.iconst 1, 1) ∧ 7 + 1 = 8 := ⟨by decide +kernel, rfl⟩
theorem d_Mo_layNumber_8 : decode m_Mo_layNumber.2.1 8 = .ok (.goto 4, 3) ∧ (((8 : Nat) : Int) + (4) = ((12 : Nat) : Int)) := ⟨by decide +kernel, by decide⟩
theorem d_Mo_layNumber_11 : decode m_Mo_layNumber.2.1 11 = .ok (.iconst 0, 1) ∧ 11 + 1 = 12 := ⟨by decide +kernel, rfl⟩
theorem d_Mo_layNumber_12 : decode m_Mo_layNumber.2.1 12 = .ok (.istore 10, 2) ∧ 12 + 2 = 14 := ⟨by decide +kernel, rfl⟩
theorem d_Mo_layNumber_14 : decode m_Mo_layNumber.2.1 14 = .ok (.aload_n 0, 1) ∧ 14 + 1 = 15 := ⟨by decide +kernel, rfl⟩
theorem d_Mo_layNumber_15 : decode m_Mo_layNumber.2.1 15 = .ok (.getfield 25, 3) ∧ 15 + 3 = 18 := ⟨by decide +kernel, rfl⟩
theorem d_Mo_layNumber_18 : decode m_Mo_layNumber.2.1 18 = .ok (.iload_n 1, 1) ∧ 18 + 1 = 19 := ⟨by decide +kernel, rfl⟩
theorem d_Mo_layNumber_19 : decode m_Mo_layNumber.2.1 19 = .ok (.iload 10, 2) ∧ 19 + 2 = 21 := ⟨by decide +kernel, rfl⟩
theorem d_Mo_layNumber_21 : decode m_Mo_layNumber.2.1 21 = .ok (.ifCond .eq 9, 3) ∧ 21 + 3 = 24 ∧ (((21 : Nat) : Int) + (9) = ((30 : Nat) : Int)) := ⟨by decide +kernel, rfl, by decide⟩
theorem d_Mo_layNumber_24 : decode m_Mo_layNumber.2.1 24 = .ok (.lconst 0, 1) ∧ 24 + 1 = 25 := ⟨by decide +kernel, rfl⟩
theorem d_Mo_layNumber_25 : decode m_Mo_layNumber.2.1 25 = .ok (.lload_n 2, 1) ∧ 25 + 1 = 26 := ⟨by decide +kernel, rfl⟩
theorem d_Mo_layNumber_26 : decode m_Mo_layNumber.2.1 26 = .ok (.lsub, 1) ∧ 26 + 1 = 27 := ⟨by decide +kernel, rfl⟩
theorem d_Mo_layNumber_27 : decode m_Mo_layNumber.2.1 27 = .ok (.goto 4, 3) ∧ (((27 : Nat) : Int) + (4) = ((31 : Nat) : Int)) := ⟨by decide +kernel, by decide⟩
theorem d_Mo_layNumber_30 : decode m_Mo_layNumber.2.1 30 = .ok (.lload_n 2, 1) ∧ 30 + 1 = 31 := ⟨by decide +kernel, rfl⟩
theorem d_Mo_layNumber_31 : decode m_Mo_layNumber.2.1 31 = .ok (.lastore, 1) ∧ 31 + 1 = 32 := ⟨by decide +kernel, rfl⟩
theorem d_Mo_layNumber_32 : decode m_Mo_layNumber.2.1 32 = .ok (.aload_n 0, 1) ∧ 32 + 1 = 33 := ⟨by decide +kernel, rfl⟩
theorem d_Mo_layNumber_33 : decode m_Mo_layNumber.2.1 33 = .ok (.getfield 29, 3) ∧ 33 + 3 = 36 := ⟨by decide +kernel, rfl⟩
theorem d_Mo_layNumber_36 : decode m_Mo_layNumber.2.1 36 = .ok (.iload_n 1, 1) ∧ 36 + 1 = 37 := ⟨by decide +kernel, rfl⟩
theorem d_Mo_layNumber_37 : decode m_Mo_layNumber.2.1 37 = .ok (.iload 10, 2) ∧ 37 + 2 = 39 := ⟨by decide +kernel, rfl⟩
theorem d_Mo_layNumber_39 : decode m_Mo_layNumber.2.1 39 = .ok (.ifCond .eq 10, 3) ∧ 39 + 3 = 42 ∧ (((39 : Nat) : Int) + (10) = ((49 : Nat) : Int)) := ⟨by decide +kernel, rfl, by decide⟩
theorem d_Mo_layNumber_42 : decode m_Mo_layNumber.2.1 42 = .ok (.lconst 0, 1) ∧ 42 + 1 = 43 := ⟨by decide +kernel, rfl⟩
theorem d_Mo_layNumber_43 : decode m_Mo_layNumber.2.1 43 = .ok (.lload 4, 2) ∧ 43 + 2 = 45 := ⟨by decide +kernel, rfl⟩
theorem d_Mo_layNumber_45 : decode m_Mo_layNumber.2.1 45 = .ok (.lsub, 1) ∧ 45 + 1 = 46 := ⟨by decide +kernel, rfl⟩
theorem d_Mo_layNumber_46 : decode m_Mo_layNumber.2.1 46 = .ok (.goto 5, 3) ∧ (((46 : Nat) : Int) + (5) = ((51 : Nat) : Int)) := ⟨by decide +kernel, by decide⟩
theorem d_Mo_layNumber_49 : decode m_Mo_layNumber.2.1 49 = .ok (.lload 4, 2) ∧ 49 + 2 = 51 := ⟨by decide +kernel, rfl⟩
theorem d_Mo_layNumber_51 : decode m_Mo_layNumber.2.1 51 = .ok (.lastore, 1) ∧ 51 + 1 = 52 := ⟨by decide +kernel, rfl⟩
theorem d_Mo_layNumber_52 : decode m_Mo_layNumber.2.1 52 = .ok (.aload_n 0, 1) ∧ 52 + 1 = 53 := ⟨by decide +kernel, rfl⟩
theorem d_Mo_layNumber_53 : decode m_Mo_layNumber.2.1 53 = .ok (.getfield 32, 3) ∧ 53 + 3 = 56 := ⟨by decide +kernel, rfl⟩
theorem d_Mo_layNumber_56 : decode m_Mo_layNumber.2.1 56 = .ok (.iload_n 1, 1) ∧ 56 + 1 = 57 := ⟨by decide +kernel, rfl⟩
theorem d_Mo_layNumber_57 : decode m_Mo_layNumber.2.1 57 = .ok (.lload 6, 2) ∧ 57 + 2 = 59 := ⟨by decide +kernel, rfl⟩
theorem d_Mo_layNumber_59 : decode m_Mo_layNumber.2.1 59 = .ok (.lastore, 1) ∧ 59 + 1 = 60 := ⟨by decide +kernel, rfl⟩
theorem d_Mo_layNumber_60 : decode m_Mo_layNumber.2.1 60 = .ok (.aload_n 0, 1) ∧ 60 + 1 = 61 := ⟨by decide +kernel, rfl⟩
theorem d_Mo_layNumber_61 : decode m_Mo_layNumber.2.1 61 = .ok (.getfield 35, 3) ∧ 61 + 3 = 64 := ⟨by decide +kernel, rfl⟩
theorem d_Mo_layNumber_64 : decode m_Mo_layNumber.2.1 64 = .ok (.iload_n 1, 1) ∧ 64 + 1 = 65 := ⟨by decide +kernel, rfl⟩
theorem d_Mo_layNumber_65 : decode m_Mo_layNumber.2.1 65 = .ok (.iload 10, 2) ∧ 65 + 2 = 67 := ⟨by decide +kernel, rfl⟩
theorem d_Mo_layNumber_67 : decode m_Mo_layNumber.2.1 67 = .ok (.ifCond .eq 10, 3) ∧ 67 + 3 = 70 ∧ (((67 : Nat) : Int) + (10) = ((77 : Nat) : Int)) := ⟨by decide +kernel, rfl, by decide⟩
theorem d_Mo_layNumber_70 : decode m_Mo_layNumber.2.1 70 = .ok (.lconst 0, 1) ∧ 70 + 1 = 71 := ⟨by decide +kernel, rfl⟩
theorem d_Mo_layNumber_71 : decode m_Mo_layNumber.2.1 71 = .ok (.lload 8, 2) ∧ 71 + 2 = 73 := ⟨by decide +kernel, rfl⟩
theorem d_Mo_layNumber_73 : decode m_Mo_layNumber.2.1 73 = .ok (.lsub, 1) ∧ 73 + 1 = 74 := ⟨by decide +kernel, rfl⟩
theorem d_Mo_layNumber_74 : decode m_Mo_layNumber.2.1 74 = .ok (.goto 5, 3) ∧ (((74 : Nat) : Int) + (5) = ((79 : Nat) : Int)) := ⟨by decide +kernel, by decide⟩
theorem d_Mo_layNumber_77 : decode m_Mo_layNumber.2.1 77 = .ok (.lload 8, 2) ∧ 77 + 2 = 79 := ⟨by decide +kernel, rfl⟩
theorem d_Mo_layNumber_79 : decode m_Mo_layNumber.2.1 79 = .ok (.lastore, 1) ∧ 79 + 1 = 80 := ⟨by decide +kernel, rfl⟩
theorem d_Mo_layNumber_80 : decode m_Mo_layNumber.2.1 80 = .ok (.lconst 0, 1) ∧ 80 + 1 = 81 := ⟨by decide +kernel, rfl⟩
theorem d_Mo_layNumber_81 : decode m_Mo_layNumber.2.1 81 = .ok (.lstore 11, 2) ∧ 81 + 2 = 83 := ⟨by decide +kernel, rfl⟩
theorem d_Mo_layNumber_83 : decode m_Mo_layNumber.2.1 83 = .ok (.lload 11, 2) ∧ 83 + 2 = 85 := ⟨by decide +kernel, rfl⟩
theorem d_Mo_layNumber_85 : decode m_Mo_layNumber.2.1 85 = .ok (.lload 11, 2) ∧ 85 + 2 = 87 := ⟨by decide +kernel, rfl⟩
theorem d_Mo_layNumber_87 : decode m_Mo_layNumber.2.1 87 = .ok (.lmul, 1) ∧ 87 + 1 = 88 := ⟨by decide +kernel, rfl⟩
theorem d_Mo_layNumber_88 : decode m_Mo_layNumber.2.1 88 = .ok (.lload 6, 2) ∧ 88 + 2 = 90 := ⟨by decide +kernel, rfl⟩
theorem d_Mo_layNumber_90 : decode m_Mo_layNumber.2.1 90 = .ok (.lcmp, 1) ∧ 90 + 1 = 91 := ⟨by decide +kernel, rfl⟩
theorem d_Mo_layNumber_91 : decode m_Mo_layNumber.2.1 91 = .ok (.ifCond .ge 12, 3) ∧ 91 + 3 = 94 ∧ (((91 : Nat) : Int) + (12) = ((103 : Nat) : Int)) := ⟨by decide +kernel, rfl, by decide⟩
theorem d_Mo_layNumber_94 : decode m_Mo_layNumber.2.1 94 = .ok (.lload 11, 2) ∧ 94 + 2 = 96 := ⟨by decide +kernel, rfl⟩
theorem d_Mo_layNumber_96 : decode m_Mo_layNumber.2.1 96 = .ok (.lconst 1, 1) ∧ 96 + 1 = 97 := ⟨by decide +kernel, rfl⟩
theorem d_Mo_layNumber_97 : decode m_Mo_layNumber.2.1 97 = .ok (.ladd, 1) ∧ 97 + 1 = 98 := ⟨by decide +kernel, rfl⟩
theorem d_Mo_layNumber_98 : decode m_Mo_layNumber.2.1 98 = .ok (.lstore 11, 2) ∧ 98 + 2 = 100 := ⟨by decide +kernel, rfl⟩
theorem d_Mo_layNumber_100 : decode m_Mo_layNumber.2.1 100 = .ok (.goto (-17), 3) ∧ (((100 : Nat) : Int) + (-17) = ((83 : Nat) : Int)) := ⟨by decide +kernel, by decide⟩
theorem d_Mo_layNumber_103 : decode m_Mo_layNumber.2.1 103 = .ok (.lload 11, 2) ∧ 103 + 2 = 105 := ⟨by decide +kernel, rfl⟩
theorem d_Mo_layNumber_105 : decode m_Mo_layNumber.2.1 105 = .ok (.lload 11, 2) ∧ 105 + 2 = 107 := ⟨by decide +kernel, rfl⟩
theorem d_Mo_layNumber_107 : decode m_Mo_layNumber.2.1 107 = .ok (.lmul, 1) ∧ 107 + 1 = 108 := ⟨by decide +kernel, rfl⟩
theorem d_Mo_layNumber_108 : decode m_Mo_layNumber.2.1 108 = .ok (.lload 6, 2) ∧ 108 + 2 = 110 := ⟨by decide +kernel, rfl⟩
theorem d_Mo_layNumber_110 : decode m_Mo_layNumber.2.1 110 = .ok (.lcmp, 1) ∧ 110 + 1 = 111 := ⟨by decide +kernel, rfl⟩
theorem d_Mo_layNumber_111 : decode m_Mo_layNumber.2.1 111 = .ok (.ifCond .ne 35, 3) ∧ 111 + 3 = 114 ∧ (((111 : Nat) : Int) + (35) = ((146 : Nat) : Int)) := ⟨by decide +kernel, rfl, by decide⟩
theorem d_Mo_layNumber_114 : decode m_Mo_layNumber.2.1 114 = .ok (.aload_n 0, 1) ∧ 114 + 1 = 115 := ⟨by decide +kernel, rfl⟩
theorem d_Mo_layNumber_115 : decode m_Mo_layNumber.2.1 115 = .ok (.getfield 25, 3) ∧ 115 + 3 = 118 := ⟨by decide +kernel, rfl⟩
theorem d_Mo_layNumber_118 : decode m_Mo_layNumber.2.1 118 = .ok (.iload_n 1, 1) ∧ 118 + 1 = 119 := ⟨by decide +kernel, rfl⟩
theorem d_Mo_layNumber_119 : decode m_Mo_layNumber.2.1 119 = .ok (.dup2, 1) ∧ 119 + 1 = 120 := ⟨by decide +kernel, rfl⟩
theorem d_Mo_layNumber_120 : decode m_Mo_layNumber.2.1 120 = .ok (.laload, 1) ∧ 120 + 1 = 121 := ⟨by decide +kernel, rfl⟩
theorem d_Mo_layNumber_121 : decode m_Mo_layNumber.2.1 121 = .ok (.aload_n 0, 1) ∧ 121 + 1 = 122 := ⟨by decide +kernel, rfl⟩
theorem d_Mo_layNumber_122 : decode m_Mo_layNumber.2.1 122 = .ok (.getfield 29, 3) ∧ 122 + 3 = 125 := ⟨by decide +kernel, rfl⟩
theorem d_Mo_layNumber_125 : decode m_Mo_layNumber.2.1 125 = .ok (.iload_n 1, 1) ∧ 125 + 1 = 126 := ⟨by decide +kernel, rfl⟩
theorem d_Mo_layNumber_126 : decode m_Mo_layNumber.2.1 126 = .ok (.laload, 1) ∧ 126 + 1 = 127 := ⟨by decide +kernel, rfl⟩
theorem d_Mo_layNumber_127 : decode m_Mo_layNumber.2.1 127 = .ok (.lload 11, 2) ∧ 127 + 2 = 129 := ⟨by decide +kernel, rfl⟩
theorem d_Mo_layNumber_129 : decode m_Mo_layNumber.2.1 129 = .ok (.lmul, 1) ∧ 129 + 1 = 130 := ⟨by decide +kernel, rfl⟩
theorem d_Mo_layNumber_130 : decode m_Mo_layNumber.2.1 130 = .ok (.ladd, 1) ∧ 130 + 1 = 131 := ⟨by decide +kernel, rfl⟩
theorem d_Mo_layNumber_131 : decode m_Mo_layNumber.2.1 131 = .ok (.lastore, 1) ∧ 131 + 1 = 132 := ⟨by decide +kernel, rfl⟩
theorem d_Mo_layNumber_132 : decode m_Mo_layNumber.2.1 132 = .ok (.aload_n 0, 1) ∧ 132 + 1 = 133 := ⟨by decide +kernel, rfl⟩
theorem d_Mo_layNumber_133 : decode m_Mo_layNumber.2.1 133 = .ok (.getfield 29, 3) ∧ 133 + 3 = 136 := ⟨by decide +kernel, rfl⟩
theorem d_Mo_layNumber_136 : decode m_Mo_layNumber.2.1 136 = .ok (.iload_n 1, 1) ∧ 136 + 1 = 137 := ⟨by decide +kernel, rfl⟩
theorem d_Mo_layNumber_137 : decode m_Mo_layNumber.2.1 137 = .ok (.lconst 0, 1) ∧ 137 + 1 = 138 := ⟨by decide +kernel, rfl⟩
theorem d_Mo_layNumber_138 : decode m_Mo_layNumber.2.1 138 = .ok (.lastore, 1) ∧ 138 + 1 = 139 := ⟨by decide +kernel, rfl⟩
theorem d_Mo_layNumber_139 : decode m_Mo_layNumber.2.1 139 = .ok (.aload_n 0, 1) ∧ 139 + 1 = 140 := ⟨by decide +kernel, rfl⟩
theorem d_Mo_layNumber_140 : decode m_Mo_layNumber.2.1 140 = .ok (.getfield 32, 3) ∧ 140 + 3 = 143 := ⟨by decide +kernel, rfl⟩
theorem d_Mo_layNumber_143 : decode m_Mo_layNumber.2.1 143 = .ok (.iload_n 1, 1) ∧ 143 + 1 = 144 := ⟨by decide +kernel, rfl⟩
theorem d_Mo_layNumber_144 : decode m_Mo_layNumber.2.1 144 = .ok (.lconst 0, 1) ∧ 144 + 1 = 145 := ⟨by decide +kernel, rfl⟩
theorem d_Mo_layNumber_145 : decode m_Mo_layNumber.2.1 145 = .ok (.lastore, 1) ∧ 145 + 1 = 146 := ⟨by decide +kernel, rfl⟩
theorem d_Mo_layNumber_146 : decode m_Mo_layNumber.2.1 146 = .ok (.return_, 1) := by decide +kernel
theorem d_Mo_compare_0 : decode m_Mo_compare.2.1 0 = .ok (.aload_n 0, 1) ∧ 0 + 1 = 1 := ⟨by decide +kernel, rfl⟩
theorem d_Mo_compare_1 : decode m_Mo_compare.2.1 1 = .ok (.getfield 35, 3) ∧ 1 + 3 = 4 := ⟨by decide +kernel, rfl⟩
theorem d_Mo_compare_4 : decode m_Mo_compare.2.1 4 = .ok (.iload_n 2, 1) ∧ 4 + 1 = 5 := ⟨by decide +kernel, rfl⟩
theorem d_Mo_compare_5 : decode m_Mo_compare.2.1 5 = .ok (.laload, 1) ∧ 5 + 1 = 6 := ⟨by decide +kernel, rfl⟩
theorem d_Mo_compare_6 : decode m_Mo_compare.2.1 6 = .ok (.aload_n 0, 1) ∧ 6 + 1 = 7 := ⟨by decide +kernel, rfl⟩
theorem d_Mo_compare_7 : decode m_Mo_compare.2.1 7 = .ok (.getfield 25, 3) ∧ 7 + 3 = 10 := ⟨by decide +kernel, rfl⟩
theorem d_Mo_compare_10 : decode m_Mo_compare.2.1 10 = .ok (.iload_n 1, 1) ∧ 10 + 1 = 11 := ⟨by decide +kernel, rfl⟩
theorem d_Mo_compare_11 : decode m_Mo_compare.2.1 11 = .ok (.laload, 1) ∧ 11 + 1 = 12 := ⟨by decide +kernel, rfl⟩
theorem d_Mo_compare_12 : decode m_Mo_compare.2.1 12 = .ok (.lmul, 1) ∧ 12 + 1 = 13 := ⟨by decide +kernel, rfl⟩
theorem d_Mo_compare_13 : decode m_Mo_compare.2.1 13 = .ok (.aload_n 0, 1) ∧ 13 + 1 = 14 := ⟨by decide +kernel, rfl⟩
theorem d_Mo_compare_14 : decode m_Mo_compare.2.1 14 = .ok (.getfield 35, 3) ∧ 14 + 3 = 17 := ⟨by decide +kernel, rfl⟩
theorem d_Mo_compare_17 : decode m_Mo_compare.2.1 17 = .ok (.iload_n 1, 1) ∧ 17 + 1 = 18 := ⟨by decide +kernel, rfl⟩
theorem d_Mo_compare_18 : decode m_Mo_compare.2.1 18 = .ok (.laload, 1) ∧ 18 + 1 = 19 := ⟨by decide +kernel, rfl⟩
theorem d_Mo_compare_19 : decode m_Mo_compare.2.1 19 = .ok (.aload_n 0, 1) ∧ 19 + 1 = 20 := ⟨by decide +kernel, rfl⟩
theorem d_Mo_compare_20 : decode m_Mo_compare.2.1 20 = .ok (.getfield 25, 3) ∧ 20 + 3 = 23 := ⟨by decide +kernel, rfl⟩
theorem d_Mo_compare_23 : decode m_Mo_compare.2.1 23 = .ok (.iload_n 2, 1) ∧ 23 + 1 = 24 := ⟨by decide +kernel, rfl⟩
theorem d_Mo_compare_24 : decode m_Mo_compare.2.1 24 = .ok (.laload, 1) ∧ 24 + 1 = 25 := ⟨by decide +kernel, rfl⟩
theorem d_Mo_compare_25 : decode m_Mo_compare.2.1 25 = .ok (.lmul, 1) ∧ 25 + 1 = 26 := ⟨by decide +kernel, rfl⟩
theorem d_Mo_compare_26 : decode m_Mo_compare.2.1 26 = .ok (.lsub, 1) ∧ 26 + 1 = 27 := ⟨by decide +kernel, rfl⟩
theorem d_Mo_compare_27 : decode m_Mo_compare.2.1 27 = .ok (.lstore_n 3, 1) ∧ 27 + 1 = 28 := ⟨by decide +kernel, rfl⟩
theorem d_Mo_compare_28 : decode m_Mo_compare.2.1 28 = .ok (.lload_n 3, 1) ∧ 28 + 1 = 29 := ⟨by decide +kernel, rfl⟩
theorem d_Mo_compare_29 : decode m_Mo_compare.2.1 29 = .ok (.aload_n 0, 1) ∧ 29 + 1 = 30 := ⟨by decide +kernel, rfl⟩
theorem d_Mo_compare_30 : decode m_Mo_compare.2.1 30 = .ok (.getfield 35, 3) ∧ 30 + 3 = 33 := ⟨by decide +kernel, rfl⟩
theorem d_Mo_compare_33 : decode m_Mo_compare.2.1 33 = .ok (.iload_n 2, 1) ∧ 33 + 1 = 34 := ⟨by decide +kernel, rfl⟩
theorem d_Mo_compare_34 : decode m_Mo_compare.2.1 34 = .ok (.laload, 1) ∧ 34 + 1 = 35 := ⟨by decide +kernel, rfl⟩
theorem d_Mo_compare_35 : decode m_Mo_compare.2.1 35 = .ok (.aload_n 0, 1) ∧ 35 + 1 = 36 := ⟨by decide +kernel, rfl⟩
theorem d_Mo_compare_36 : decode m_Mo_compare.2.1 36 = .ok (.getfield 29, 3) ∧ 36 + 3 = 39 := ⟨by decide +kernel, rfl⟩
theorem d_Mo_compare_39 : decode m_Mo_compare.2.1 39 = .ok (.iload_n 1, 1) ∧ 39 + 1 = 40 := ⟨by decide +kernel, rfl⟩
theorem d_Mo_compare_40 : decode m_Mo_compare.2.1 40 = .ok (.laload, 1) ∧ 40 + 1 = 41 := ⟨by decide +kernel, rfl⟩
theorem d_Mo_compare_41 : decode m_Mo_compare.2.1 41 = .ok (.lmul, 1) ∧ 41 + 1 = 42 := ⟨by decide +kernel, rfl⟩
theorem d_Mo_compare_42 : decode m_Mo_compare.2.1 42 = .ok (.aload_n 0, 1) ∧ 42 + 1 = 43 := ⟨by decide +kernel, rfl⟩
theorem d_Mo_compare_43 : decode m_Mo_compare.2.1 43 = .ok (.getfield 32, 3) ∧ 43 + 3 = 46 := ⟨by decide +kernel, rfl⟩
theorem d_Mo_compare_46 : decode m_Mo_compare.2.1 46 = .ok (.iload_n 1, 1) ∧ 46 + 1 = 47 := ⟨by decide +kernel, rfl⟩
theorem d_Mo_compare_47 : decode m_Mo_compare.2.1 47 = .ok (.laload, 1) ∧ 47 + 1 = 48 := ⟨by decide +kernel, rfl⟩
theorem d_Mo_compare_48 : decode m_Mo_compare.2.1 48 = .ok (.lconst 0, 1) ∧ 48 + 1 = 49 := ⟨by decide +kernel, rfl⟩
theorem d_Mo_compare_49 : decode m_Mo_compare.2.1 49 = .ok (.aload_n 0, 1) ∧ 49 + 1 = 50 := ⟨by decide +kernel, rfl⟩
theorem d_Mo_compare_50 : decode m_Mo_compare.2.1 50 = .ok (.getfield 35, 3) ∧ 50 + 3 = 53 := ⟨by decide +kernel, rfl⟩
theorem d_Mo_compare_53 : decode m_Mo_compare.2.1 53 = .ok (.iload_n 1, 1) ∧ 53 + 1 = 54 := ⟨by decide +kernel, rfl⟩
theorem d_Mo_compare_54 : decode m_Mo_compare.2.1 54 = .ok (.laload, 1) ∧ 54 + 1 = 55 := ⟨by decide +kernel, rfl⟩
theorem d_Mo_compare_55 : decode m_Mo_compare.2.1 55 = .ok (.aload_n 0, 1) ∧ 55 + 1 = 56 := ⟨by decide +kernel, rfl⟩
theorem d_Mo_compare_56 : decode m_Mo_compare.2.1 56 = .ok (.getfield 29, 3) ∧ 56 + 3 = 59 := ⟨by decide +kernel, rfl⟩
theorem d_Mo_compare_59 : decode m_Mo_compare.2.1 59 = .ok (.iload_n 2, 1) ∧ 59 + 1 = 60 := ⟨by decide +kernel, rfl⟩
theorem d_Mo_compare_60 : decode m_Mo_compare.2.1 60 = .ok (.laload, 1) ∧ 60 + 1 = 61 := ⟨by decide +kernel, rfl⟩
theorem d_Mo_compare_61 : decode m_Mo_compare.2.1 61 = .ok (.lmul, 1) ∧ 61 + 1 = 62 := ⟨by decide +kernel, rfl⟩
theorem d_Mo_compare_62 : decode m_Mo_compare.2.1 62 = .ok (.lsub, 1) ∧ 62 + 1 = 63 := ⟨by decide +kernel, rfl⟩
theorem d_Mo_compare_63 : decode m_Mo_compare.2.1 63 = .ok (.aload_n 0, 1) ∧ 63 + 1 = 64 := ⟨by decide +kernel, rfl⟩
theorem d_Mo_compare_64 : decode m_Mo_compare.2.1 64 = .ok (.getfield 32, 3) ∧ 64 + 3 = 67 := ⟨by decide +kernel, rfl⟩
theorem d_Mo_compare_67 : decode m_Mo_compare.2.1 67 = .ok (.iload_n 2, 1) ∧ 67 + 1 = 68 := ⟨by decide +kernel, rfl⟩
theorem d_Mo_compare_68 : decode m_Mo_compare.2.1 68 = .ok (.laload, 1) ∧ 68 + 1 = 69 := ⟨by decide +kernel, rfl⟩
theorem d_Mo_compare_69 : decode m_Mo_compare.2.1 69 = .ok (.invokestatic 142, 3) ∧ 69 + 3 = 72 := ⟨by decide +kernel, rfl⟩
theorem d_Mo_compare_72 : decode m_Mo_compare.2.1 72 = .ok (.ireturn, 1) := by decide +kernel
theorem d_Mo_compareTo_0 : decode m_Mo_compareTo.2.1 0 = .ok (.lload 4, 2) ∧ 0 + 2 = 2 := ⟨by decide +kernel, rfl⟩
theorem d_Mo_compareTo_2 : decode m_Mo_compareTo.2.1 2 = .ok (.aload_n 0, 1) ∧ 2 + 1 = 3 := ⟨by decide +kernel, rfl⟩
theorem d_Mo_compareTo_3 : decode m_Mo_compareTo.2.1 3 = .ok (.getfield 25, 3) ∧ 3 + 3 = 6 := ⟨by decide +kernel, rfl⟩
theorem d_Mo_compareTo_6 : decode m_Mo_compareTo.2.1 6 = .ok (.iload_n 1, 1) ∧ 6 + 1 = 7 := ⟨by decide +kernel, rfl⟩
theorem d_Mo_compareTo_7 : decode m_Mo_compareTo.2.1 7 = .ok (.laload, 1) ∧ 7 + 1 = 8 := ⟨by decide +kernel, rfl⟩
theorem d_Mo_compareTo_8 : decode m_Mo_compareTo.2.1 8 = .ok (.lmul, 1) ∧ 8 + 1 = 9 := ⟨by decide +kernel, rfl⟩
theorem d_Mo_compareTo_9 : decode m_Mo_compareTo.2.1 9 = .ok (.lload_n 2, 1) ∧ 9 + 1 = 10 := ⟨by decide +kernel, rfl⟩
theorem d_Mo_compareTo_10 : decode m_Mo_compareTo.2.1 10 = .ok (.aload_n 0, 1) ∧ 10 + 1 = 11 := ⟨by decide +kernel, rfl⟩
theorem d_Mo_compareTo_11 : decode m_Mo_compareTo.2.1 11 = .ok (.getfield 35, 3) ∧ 11 + 3 = 14 := ⟨by decide +kernel, rfl⟩
theorem d_Mo_compareTo_14 : decode m_Mo_compareTo.2.1 14 = .ok (.iload_n 1, 1) ∧ 14 + 1 = 15 := ⟨by decide +kernel, rfl⟩
theorem d_Mo_compareTo_15 : decode m_Mo_compareTo.2.1 15 = .ok (.laload, 1) ∧ 15 + 1 = 16 := ⟨by decide +kernel, rfl⟩
theorem d_Mo_compareTo_16 : decode m_Mo_compareTo.2.1 16 = .ok (.lmul, 1) ∧ 16 + 1 = 17 := ⟨by decide +kernel, rfl⟩
theorem d_Mo_compareTo_17 : decode m_Mo_compareTo.2.1 17 = .ok (.lsub, 1) ∧ 17 + 1 = 18 := ⟨by decide +kernel, rfl⟩
theorem d_Mo_compareTo_18 : decode m_Mo_compareTo.2.1 18 = .ok (.lload 4, 2) ∧ 18 + 2 = 20 := ⟨by decide +kernel, rfl⟩
theorem d_Mo_compareTo_20 : decode m_Mo_compareTo.2.1 20 = .ok (.aload_n 0, 1) ∧ 20 + 1 = 21 := ⟨by decide +kernel, rfl⟩
theorem d_Mo_compareTo_21 : decode m_Mo_compareTo.2.1 21 = .ok (.getfield 29, 3) ∧ 21 + 3 = 24 := ⟨by decide +kernel, rfl⟩
theorem d_Mo_compareTo_24 : decode m_Mo_compareTo.2.1 24 = .ok (.iload_n 1, 1) ∧ 24 + 1 = 25 := ⟨by decide +kernel, rfl⟩
theorem d_Mo_compareTo_25 : decode m_Mo_compareTo.2.1 25 = .ok (.laload, 1) ∧ 25 + 1 = 26 := ⟨by decide +kernel, rfl⟩
theorem d_Mo_compareTo_26 : decode m_Mo_compareTo.2.1 26 = .ok (.lmul, 1) ∧ 26 + 1 = 27 := ⟨by decide +kernel, rfl⟩
theorem d_Mo_compareTo_27 : decode m_Mo_compareTo.2.1 27 = .ok (.aload_n 0, 1) ∧ 27 + 1 = 28 := ⟨by decide +kernel, rfl⟩
theorem d_Mo_compareTo_28 : decode m_Mo_compareTo.2.1 28 = .ok (.getfield 32, 3) ∧ 28 + 3 = 31 := ⟨by decide +kernel, rfl⟩
theorem d_Mo_compareTo_31 : decode m_Mo_compareTo.2.1 31 = .ok (.iload_n 1, 1) ∧ 31 + 1 = 32 := ⟨by decide +kernel, rfl⟩
theorem d_Mo_compareTo_32 : decode m_Mo_compareTo.2.1 32 = .ok (.laload, 1) ∧ 32 + 1 = 33 := ⟨by decide +kernel, rfl⟩
theorem d_Mo_compareTo_33 : decode m_Mo_compareTo.2.1 33 = .ok (.invokestatic 136, 3) ∧ 33 + 3 = 36 := ⟨by decide +kernel, rfl⟩
theorem d_Mo_compareTo_36 : decode m_Mo_compareTo.2.1 36 = .ok (.ireturn, 1) := by decide +kernel
theorem d_Mo_floorOf_0 : decode m_Mo_floorOf.2.1 0 = .ok (.ldc2_w 146, 3) ∧ 0 + 3 = 3 := ⟨by decide +kernel, rfl⟩
theorem d_Mo_floorOf_3 : decode m_Mo_floorOf.2.1 3 = .ok (.lload_n 2, 1) ∧ 3 + 1 = 4 := ⟨by decide +kernel, rfl⟩
theorem d_Mo_floorOf_4 : decode m_Mo_floorOf.2.1 4 = .ok (.lmul, 1) ∧ 4 + 1 = 5 := ⟨by decide +kernel, rfl⟩
theorem d_Mo_floorOf_5 : decode m_Mo_floorOf.2.1 5 = .ok (.lstore 4, 2) ∧ 5 + 2 = 7 := ⟨by decide +kernel, rfl⟩
theorem d_Mo_floorOf_7 : decode m_Mo_floorOf.2.1 7 = .ok (.ldc2_w 148, 3) ∧ 7 + 3 = 10 := ⟨by decide +kernel, rfl⟩
theorem d_Mo_floorOf_10 : decode m_Mo_floorOf.2.1 10 = .ok (.lload_n 2, 1) ∧ 10 + 1 = 11 := ⟨by decide +kernel, rfl⟩
theorem d_Mo_floorOf_11 : decode m_Mo_floorOf.2.1 11 = .ok (.lmul, 1) ∧ 11 + 1 = 12 := ⟨by decide +kernel, rfl⟩
theorem d_Mo_floorOf_12 : decode m_Mo_floorOf.2.1 12 = .ok (.lstore 6, 2) ∧ 12 + 2 = 14 := ⟨by decide +kernel, rfl⟩
theorem d_Mo_floorOf_14 : decode m_Mo_floorOf.2.1 14 = .ok (.lload 6, 2) ∧ 14 + 2 = 16 := ⟨by decide +kernel, rfl⟩
theorem d_Mo_floorOf_16 : decode m_Mo_floorOf.2.1 16 = .ok (.lload 4, 2) ∧ 16 + 2 = 18 := ⟨by decide +kernel, rfl⟩
theorem d_Mo_floorOf_18 : decode m_Mo_floorOf.2.1 18 = .ok (.lsub, 1) ∧ 18 + 1 = 19 := ⟨by decide +kernel, rfl⟩
theorem d_Mo_floorOf_19 : decode m_Mo_floorOf.2.1 19 = .ok (.lconst 1, 1) ∧ 19 + 1 = 20 := ⟨by decide +kernel, rfl⟩
theorem d_Mo_floorOf_20 : decode m_Mo_floorOf.2.1 20 = .ok (.lcmp, 1) ∧ 20 + 1 = 21 := ⟨by decide +kernel, rfl⟩
theorem d_Mo_floorOf_21 : decode m_Mo_floorOf.2.1 21 = .ok (.ifCond .le 42, 3) ∧ 21 + 3 = 24 ∧ (((21 : Nat) : Int) + (42) = ((63 : Nat) : Int)) := ⟨by decide +kernel, rfl, by decide⟩
theorem d_Mo_floorOf_24 : decode m_Mo_floorOf.2.1 24 = .ok (.lload 4, 2) ∧ 24 + 2 = 26 := ⟨by decide +kernel, rfl⟩
theorem d_Mo_floorOf_26 : decode m_Mo_floorOf.2.1 26 = .ok (.lload 6, 2) ∧ 26 + 2 = 28 := ⟨by decide +kernel, rfl⟩
theorem d_Mo_floorOf_28 : decode m_Mo_floorOf.2.1 28 = .ok (.lload 4, 2) ∧ 28 + 2 = 30 := ⟨by decide +kernel, rfl⟩
theorem d_Mo_floorOf_30 : decode m_Mo_floorOf.2.1 30 = .ok (.lsub, 1) ∧ 30 + 1 = 31 := ⟨by decide +kernel, rfl⟩
theorem d_Mo_floorOf_31 : decode m_Mo_floorOf.2.1 31 = .ok (.ldc2_w 150, 3) ∧ 31 + 3 = 34 := ⟨by decide +kernel, rfl⟩
theorem d_Mo_floorOf_34 : decode m_Mo_floorOf.2.1 34 = .ok (.ldiv, 1) ∧ 34 + 1 = 35 := ⟨by decide +kernel, rfl⟩
theorem d_Mo_floorOf_35 : decode m_Mo_floorOf.2.1 35 = .ok (.ladd, 1) ∧ 35 + 1 = 36 := ⟨by decide +kernel, rfl⟩
theorem d_Mo_floorOf_36 : decode m_Mo_floorOf.2.1 36 = .ok (.lstore 8, 2) ∧ 36 + 2 = 38 := ⟨by decide +kernel, rfl⟩
theorem d_Mo_floorOf_38 : decode m_Mo_floorOf.2.1 38 = .ok (.aload_n 0, 1) ∧ 38 + 1 = 39 := ⟨by decide +kernel, rfl⟩
theorem d_Mo_floorOf_39 : decode m_Mo_floorOf.2.1 39 = .ok (.iload_n 1, 1) ∧ 39 + 1 = 40 := ⟨by decide +kernel, rfl⟩
theorem d_Mo_floorOf_40 : decode m_Mo_floorOf.2.1 40 = .ok (.lload 8, 2) ∧ 40 + 2 = 42 := ⟨by decide +kernel, rfl⟩
theorem d_Mo_floorOf_42 : decode m_Mo_floorOf.2.1 42 = .ok (.lload_n 2, 1) ∧ 42 + 1 = 43 := ⟨by decide +kernel, rfl⟩
theorem d_Mo_floorOf_43 : decode m_Mo_floorOf.2.1 43 = .ok (.invokevirtual 152, 3) ∧ 43 + 3 = 46 := ⟨by decide +kernel, rfl⟩
theorem d_Mo_floorOf_46 : decode m_Mo_floorOf.2.1 46 = .ok (.ifCond .lt 10, 3) ∧ 46 + 3 = 49 ∧ (((46 : Nat) : Int) + (10) = ((56 : Nat) : Int)) := ⟨by decide +kernel, rfl, by decide⟩
theorem d_Mo_floorOf_49 : decode m_Mo_floorOf.2.1 49 = .ok (.lload 8, 2) ∧ 49 + 2 = 51 := ⟨by decide +kernel, rfl⟩
theorem d_Mo_floorOf_51 : decode m_Mo_floorOf.2.1 51 = .ok (.lstore 4, 2) ∧ 51 + 2 = 53 := ⟨by decide +kernel, rfl⟩
theorem d_Mo_floorOf_53 : decode m_Mo_floorOf.2.1 53 = .ok (.goto 7, 3) ∧ (((53 : Nat) : Int) + (7) = ((60 : Nat) : Int)) := ⟨by decide +kernel, by decide⟩
theorem d_Mo_floorOf_56 : decode m_Mo_floorOf.2.1 56 = .ok (.lload 8, 2) ∧ 56 + 2 = 58 := ⟨by decide +kernel, rfl⟩
theorem d_Mo_floorOf_58 : decode m_Mo_floorOf.2.1 58 = .ok (.lstore 6, 2) ∧ 58 + 2 = 60 := ⟨by decide +kernel, rfl⟩
theorem d_Mo_floorOf_60 : decode m_Mo_floorOf.2.1 60 = .ok (.goto (-46), 3) ∧ (((60 : Nat) : Int) + (-46) = ((14 : Nat) : Int)) := ⟨by decide +kernel, by decide⟩
theorem d_Mo_floorOf_63 : decode m_Mo_floorOf.2.1 63 = .ok (.lload 4, 2) ∧ 63 + 2 = 65 := ⟨by decide +kernel, rfl⟩
theorem d_Mo_floorOf_65 : decode m_Mo_floorOf.2.1 65 = .ok (.lreturn, 1) := by decide +kernel
theorem d_Mo_difference_0 : decode m_Mo_difference.2.1 0 = .ok (.aload_n 0, 1) ∧ 0 + 1 = 1 := ⟨by decide +kernel, rfl⟩
theorem d_Mo_difference_1 : decode m_Mo_difference.2.1 1 = .ok (.iload_n 1, 1) ∧ 1 + 1 = 2 := ⟨by decide +kernel, rfl⟩
theorem d_Mo_difference_2 : decode m_Mo_difference.2.1 2 = .ok (.invokevirtual 126, 3) ∧ 2 + 3 = 5 := ⟨by decide +kernel, rfl⟩
theorem d_Mo_difference_5 : decode m_Mo_difference.2.1 5 = .ok (.aload_n 0, 1) ∧ 5 + 1 = 6 := ⟨by decide +kernel, rfl⟩
theorem d_Mo_difference_6 : decode m_Mo_difference.2.1 6 = .ok (.iload_n 2, 1) ∧ 6 + 1 = 7 := ⟨by decide +kernel, rfl⟩
theorem d_Mo_difference_7 : decode m_Mo_difference.2.1 7 = .ok (.invokevirtual 126, 3) ∧ 7 + 3 = 10 := ⟨by decide +kernel, rfl⟩
theorem d_Mo_difference_10 : decode m_Mo_difference.2.1 10 = .ok (.isub, 1) ∧ 10 + 1 = 11 := ⟨by decide +kernel, rfl⟩
theorem d_Mo_difference_11 : decode m_Mo_difference.2.1 11 = .ok (.i2l, 1) ∧ 11 + 1 = 12 := ⟨by decide +kernel, rfl⟩
theorem d_Mo_difference_12 : decode m_Mo_difference.2.1 12 = .ok (.lstore 4, 2) ∧ 12 + 2 = 14 := ⟨by decide +kernel, rfl⟩
theorem d_Mo_difference_14 : decode m_Mo_difference.2.1 14 = .ok (.aload_n 0, 1) ∧ 14 + 1 = 15 := ⟨by decide +kernel, rfl⟩
theorem d_Mo_difference_15 : decode m_Mo_difference.2.1 15 = .ok (.iload_n 1, 1) ∧ 15 + 1 = 16 := ⟨by decide +kernel, rfl⟩
theorem d_Mo_difference_16 : decode m_Mo_difference.2.1 16 = .ok (.invokevirtual 129, 3) ∧ 16 + 3 = 19 := ⟨by decide +kernel, rfl⟩
theorem d_Mo_difference_19 : decode m_Mo_difference.2.1 19 = .ok (.aload_n 0, 1) ∧ 19 + 1 = 20 := ⟨by decide +kernel, rfl⟩
theorem d_Mo_difference_20 : decode m_Mo_difference.2.1 20 = .ok (.iload_n 2, 1) ∧ 20 + 1 = 21 := ⟨by decide +kernel, rfl⟩
theorem d_Mo_difference_21 : decode m_Mo_difference.2.1 21 = .ok (.invokevirtual 129, 3) ∧ 21 + 3 = 24 := ⟨by decide +kernel, rfl⟩
theorem d_Mo_difference_24 : decode m_Mo_difference.2.1 24 = .ok (.isub, 1) ∧ 24 + 1 = 25 := ⟨by decide +kernel, rfl⟩
theorem d_Mo_difference_25 : decode m_Mo_difference.2.1 25 = .ok (.i2l, 1) ∧ 25 + 1 = 26 := ⟨by decide +kernel, rfl⟩
theorem d_Mo_difference_26 : decode m_Mo_difference.2.1 26 = .ok (.lstore 6, 2) ∧ 26 + 2 = 28 := ⟨by decide +kernel, rfl⟩
theorem d_Mo_difference_28 : decode m_Mo_difference.2.1 28 = .ok (.aload_n 0, 1) ∧ 28 + 1 = 29 := ⟨by decide +kernel, rfl⟩
theorem d_Mo_difference_29 : decode m_Mo_difference.2.1 29 = .ok (.getfield 19, 3) ∧ 29 + 3 = 32 := ⟨by decide +kernel, rfl⟩
theorem d_Mo_difference_32 : decode m_Mo_difference.2.1 32 = .ok (.iload_n 1, 1) ∧ 32 + 1 = 33 := ⟨by decide +kernel, rfl⟩
theorem d_Mo_difference_33 : decode m_Mo_difference.2.1 33 = .ok (.iaload, 1) ∧ 33 + 1 = 34 := ⟨by decide +kernel, rfl⟩
theorem d_Mo_difference_34 : decode m_Mo_difference.2.1 34 = .ok (.aload_n 0, 1) ∧ 34 + 1 = 35 := ⟨by decide +kernel, rfl⟩
theorem d_Mo_difference_35 : decode m_Mo_difference.2.1 35 = .ok (.getfield 19, 3) ∧ 35 + 3 = 38 := ⟨by decide +kernel, rfl⟩
theorem d_Mo_difference_38 : decode m_Mo_difference.2.1 38 = .ok (.iload_n 2, 1) ∧ 38 + 1 = 39 := ⟨by decide +kernel, rfl⟩
theorem d_Mo_difference_39 : decode m_Mo_difference.2.1 39 = .ok (.iaload, 1) ∧ 39 + 1 = 40 := ⟨by decide +kernel, rfl⟩
theorem d_Mo_difference_40 : decode m_Mo_difference.2.1 40 = .ok (.isub, 1) ∧ 40 + 1 = 41 := ⟨by decide +kernel, rfl⟩
theorem d_Mo_difference_41 : decode m_Mo_difference.2.1 41 = .ok (.i2l, 1) ∧ 41 + 1 = 42 := ⟨by decide +kernel, rfl⟩
theorem d_Mo_difference_42 : decode m_Mo_difference.2.1 42 = .ok (.lstore 8, 2) ∧ 42 + 2 = 44 := ⟨by decide +kernel, rfl⟩
theorem d_Mo_difference_44 : decode m_Mo_difference.2.1 44 = .ok (.aload_n 0, 1) ∧ 44 + 1 = 45 := ⟨by decide +kernel, rfl⟩
theorem d_Mo_difference_45 : decode m_Mo_difference.2.1 45 = .ok (.getfield 25, 3) ∧ 45 + 3 = 48 := ⟨by decide +kernel, rfl⟩
theorem d_Mo_difference_48 : decode m_Mo_difference.2.1 48 = .ok (.iload_n 3, 1) ∧ 48 + 1 = 49 := ⟨by decide +kernel, rfl⟩
theorem d_Mo_difference_49 : decode m_Mo_difference.2.1 49 = .ok (.laload, 1) ∧ 49 + 1 = 50 := ⟨by decide +kernel, rfl⟩
theorem d_Mo_difference_50 : decode m_Mo_difference.2.1 50 = .ok (.lstore 10, 2) ∧ 50 + 2 = 52 := ⟨by decide +kernel, rfl⟩
theorem d_Mo_difference_52 : decode m_Mo_difference.2.1 52 = .ok (.aload_n 0, 1) ∧ 52 + 1 = 53 := ⟨by decide +kernel, rfl⟩
theorem d_Mo_difference_53 : decode m_Mo_difference.2.1 53 = .ok (.getfield 35, 3) ∧ 53 + 3 = 56 := ⟨by decide +kernel, rfl⟩
theorem d_Mo_difference_56 : decode m_Mo_difference.2.1 56 = .ok (.iload_n 3, 1) ∧ 56 + 1 = 57 := ⟨by decide +kernel, rfl⟩
theorem d_Mo_difference_57 : decode m_Mo_difference.2.1 57 = .ok (.laload, 1) ∧ 57 + 1 = 58 := ⟨by decide +kernel, rfl⟩
theorem d_Mo_difference_58 : decode m_Mo_difference.2.1 58 = .ok (.lstore 12, 2) ∧ 58 + 2 = 60 := ⟨by decide +kernel, rfl⟩
theorem d_Mo_difference_60 : decode m_Mo_difference.2.1 60 = .ok (.aload_n 0, 1) ∧ 60 + 1 = 61 := ⟨by decide +kernel, rfl⟩
theorem d_Mo_difference_61 : decode m_Mo_difference.2.1 61 = .ok (.getfield 29, 3) ∧ 61 + 3 = 64 := ⟨by decide +kernel, rfl⟩
theorem d_Mo_difference_64 : decode m_Mo_difference.2.1 64 = .ok (.iload_n 3, 1) ∧ 64 + 1 = 65 := ⟨by decide +kernel, rfl⟩
theorem d_Mo_difference_65 : decode m_Mo_difference.2.1 65 = .ok (.laload, 1) ∧ 65 + 1 = 66 := ⟨by decide +kernel, rfl⟩
theorem d_Mo_difference_66 : decode m_Mo_difference.2.1 66 = .ok (.lstore 14, 2) ∧ 66 + 2 = 68 := ⟨by decide +kernel, rfl⟩
theorem d_Mo_difference_68 : decode m_Mo_difference.2.1 68 = .ok (.lload 4, 2) ∧ 68 + 2 = 70 := ⟨by decide +kernel, rfl⟩
theorem d_Mo_difference_70 : decode m_Mo_difference.2.1 70 = .ok (.lload 10, 2) ∧ 70 + 2 = 72 := ⟨by decide +kernel, rfl⟩
theorem d_Mo_difference_72 : decode m_Mo_difference.2.1 72 = .ok (.lload 10, 2) ∧ 72 + 2 = 74 := ⟨by decide +kernel, rfl⟩
theorem d_Mo_difference_74 : decode m_Mo_difference.2.1 74 = .ok (.lmul, 1) ∧ 74 + 1 = 75 := ⟨by decide +kernel, rfl⟩
theorem d_Mo_difference_75 : decode m_Mo_difference.2.1 75 = .ok (.lload 14, 2) ∧ 75 + 2 = 77 := ⟨by decide +kernel, rfl⟩
theorem d_Mo_difference_77 : decode m_Mo_difference.2.1 77 = .ok (.lload 14, 2) ∧ 77 + 2 = 79 := ⟨by decide +kernel, rfl⟩
theorem d_Mo_difference_79 : decode m_Mo_difference.2.1 79 = .ok (.lmul, 1) ∧ 79 + 1 = 80 := ⟨by decide +kernel, rfl⟩
theorem d_Mo_difference_80 : decode m_Mo_difference.2.1 80 = .ok (.aload_n 0, 1) ∧ 80 + 1 = 81 := ⟨by decide +kernel, rfl⟩
theorem d_Mo_difference_81 : decode m_Mo_difference.2.1 81 = .ok (.getfield 32, 3) ∧ 81 + 3 = 84 := ⟨by decide +kernel, rfl⟩
theorem d_Mo_difference_84 : decode m_Mo_difference.2.1 84 = .ok (.iload_n 3, 1) ∧ 84 + 1 = 85 := ⟨by decide +kernel, rfl⟩
theorem d_Mo_difference_85 : decode m_Mo_difference.2.1 85 = .ok (.laload, 1) ∧ 85 + 1 = 86 := ⟨by decide +kernel, rfl⟩
theorem d_Mo_difference_86 : decode m_Mo_difference.2.1 86 = .ok (.lmul, 1) ∧ 86 + 1 = 87 := ⟨by decide +kernel, rfl⟩
theorem d_Mo_difference_87 : decode m_Mo_difference.2.1 87 = .ok (.ladd, 1) ∧ 87 + 1 = 88 := ⟨by decide +kernel, rfl⟩
theorem d_Mo_difference_88 : decode m_Mo_difference.2.1 88 = .ok (.lmul, 1) ∧ 88 + 1 = 89 := ⟨by decide +kernel, rfl⟩
theorem d_Mo_difference_89 : decode m_Mo_difference.2.1 89 = .ok (.lload 6, 2) ∧ 89 + 2 = 91 := ⟨by decide +kernel, rfl⟩
theorem d_Mo_difference_91 : decode m_Mo_difference.2.1 91 = .ok (.lload 12, 2) ∧ 91 + 2 = 93 := ⟨by decide +kernel, rfl⟩
theorem d_Mo_difference_93 : decode m_Mo_difference.2.1 93 = .ok (.lmul, 1) ∧ 93 + 1 = 94 := ⟨by decide +kernel, rfl⟩
theorem d_Mo_difference_94 : decode m_Mo_difference.2.1 94 = .ok (.lload 10, 2) ∧ 94 + 2 = 96 := ⟨by decide +kernel, rfl⟩
theorem d_Mo_difference_96 : decode m_Mo_difference.2.1 96 = .ok (.lmul, 1) ∧ 96 + 1 = 97 := ⟨by decide +kernel, rfl⟩
theorem d_Mo_difference_97 : decode m_Mo_difference.2.1 97 = .ok (.ladd, 1) ∧ 97 + 1 = 98 := ⟨by decide +kernel, rfl⟩
theorem d_Mo_difference_98 : decode m_Mo_difference.2.1 98 = .ok (.lload 8, 2) ∧ 98 + 2 = 100 := ⟨by decide +kernel, rfl⟩
theorem d_Mo_difference_100 : decode m_Mo_difference.2.1 100 = .ok (.lload 12, 2) ∧ 100 + 2 = 102 := ⟨by decide +kernel, rfl⟩
theorem d_Mo_difference_102 : decode m_Mo_difference.2.1 102 = .ok (.lmul, 1) ∧ 102 + 1 = 103 := ⟨by decide +kernel, rfl⟩
theorem d_Mo_difference_103 : decode m_Mo_difference.2.1 103 = .ok (.lload 12, 2) ∧ 103 + 2 = 105 := ⟨by decide +kernel, rfl⟩
theorem d_Mo_difference_105 : decode m_Mo_difference.2.1 105 = .ok (.lmul, 1) ∧ 105 + 1 = 106 := ⟨by decide +kernel, rfl⟩
theorem d_Mo_difference_106 : decode m_Mo_difference.2.1 106 = .ok (.ladd, 1) ∧ 106 + 1 = 107 := ⟨by decide +kernel, rfl⟩
theorem d_Mo_difference_107 : decode m_Mo_difference.2.1 107 = .ok (.lstore 16, 2) ∧ 107 + 2 = 109 := ⟨by decide +kernel, rfl⟩
theorem d_Mo_difference_109 : decode m_Mo_difference.2.1 109 = .ok (.lload 16, 2) ∧ 109 + 2 = 111 := ⟨by decide +kernel, rfl⟩
theorem d_Mo_difference_111 : decode m_Mo_difference.2.1 111 = .ok (.lload 14, 2) ∧ 111 + 2 = 113 := ⟨by decide +kernel, rfl⟩
theorem d_Mo_difference_113 : decode m_Mo_difference.2.1 113 = .ok (.ldc2_w 150, 3) ∧ 113 + 3 = 116 := ⟨by decide +kernel, rfl⟩
theorem d_Mo_difference_116 : decode m_Mo_difference.2.1 116 = .ok (.lload 4, 2) ∧ 116 + 2 = 118 := ⟨by decide +kernel, rfl⟩
theorem d_Mo_difference_118 : decode m_Mo_difference.2.1 118 = .ok (.lmul, 1) ∧ 118 + 1 = 119 := ⟨by decide +kernel, rfl⟩
theorem d_Mo_difference_119 : decode m_Mo_difference.2.1 119 = .ok (.lload 10, 2) ∧ 119 + 2 = 121 := ⟨by decide +kernel, rfl⟩
theorem d_Mo_difference_121 : decode m_Mo_difference.2.1 121 = .ok (.lmul, 1) ∧ 121 + 1 = 122 := ⟨by decide +kernel, rfl⟩
theorem d_Mo_difference_122 : decode m_Mo_difference.2.1 122 = .ok (.lload 6, 2) ∧ 122 + 2 = 124 := ⟨by decide +kernel, rfl⟩
theorem d_Mo_difference_124 : decode m_Mo_difference.2.1 124 = .ok (.lload 12, 2) ∧ 124 + 2 = 126 := ⟨by decide +kernel, rfl⟩
theorem d_Mo_difference_126 : decode m_Mo_difference.2.1 126 = .ok (.lmul, 1) ∧ 126 + 1 = 127 := ⟨by decide +kernel, rfl⟩
theorem d_Mo_difference_127 : decode m_Mo_difference.2.1 127 = .ok (.ladd, 1) ∧ 127 + 1 = 128 := ⟨by decide +kernel, rfl⟩
theorem d_Mo_difference_128 : decode m_Mo_difference.2.1 128 = .ok (.lmul, 1) ∧ 128 + 1 = 129 := ⟨by decide +kernel, rfl⟩
theorem d_Mo_difference_129 : decode m_Mo_difference.2.1 129 = .ok (.aload_n 0, 1) ∧ 129 + 1 = 130 := ⟨by decide +kernel, rfl⟩
theorem d_Mo_difference_130 : decode m_Mo_difference.2.1 130 = .ok (.getfield 32, 3) ∧ 130 + 3 = 133 := ⟨by decide +kernel, rfl⟩
theorem d_Mo_difference_133 : decode m_Mo_difference.2.1 133 = .ok (.iload_n 3, 1) ∧ 133 + 1 = 134 := ⟨by decide +kernel, rfl⟩
theorem d_Mo_difference_134 : decode m_Mo_difference.2.1 134 = .ok (.laload, 1) ∧ 134 + 1 = 135 := ⟨by decide +kernel, rfl⟩
theorem d_Mo_difference_135 : decode m_Mo_difference.2.1 135 = .ok (.invokestatic 136, 3) ∧ 135 + 3 = 138 := ⟨by decide +kernel, rfl⟩
theorem d_Mo_difference_138 : decode m_Mo_difference.2.1 138 = .ok (.ireturn, 1) := by decide +kernel
theorem d_Mo_addPoint_0 : decode m_Mo_addPoint.2.1 0 = .ok (.aload_n 0, 1) ∧ 0 + 1 = 1 := ⟨by decide +kernel, rfl⟩
theorem d_Mo_addPoint_1 : decode m_Mo_addPoint.2.1 1 = .ok (.aload_n 0, 1) ∧ 1 + 1 = 2 := ⟨by decide +kernel, rfl⟩
theorem d_Mo_addPoint_2 : decode m_Mo_addPoint.2.1 2 = .ok (.getfield 156, 3) ∧ 2 + 3 = 5 := ⟨by decide +kernel, rfl⟩
theorem d_Mo_addPoint_5 : decode m_Mo_addPoint.2.1 5 = .ok (.lload_n 1, 1) ∧ 5 + 1 = 6 := ⟨by decide +kernel, rfl⟩
theorem d_Mo_addPoint_6 : decode m_Mo_addPoint.2.1 6 = .ok (.lload_n 3, 1) ∧ 6 + 1 = 7 := ⟨by decide +kernel, rfl⟩
theorem d_Mo_addPoint_7 : decode m_Mo_addPoint.2.1 7 = .ok (.lload 5, 2) ∧ 7 + 2 = 9 := ⟨by decide +kernel, rfl⟩
theorem d_Mo_addPoint_9 : decode m_Mo_addPoint.2.1 9 = .ok (.lload 7, 2) ∧ 9 + 2 = 11 := ⟨by decide +kernel, rfl⟩
theorem d_Mo_addPoint_11 : decode m_Mo_addPoint.2.1 11 = .ok (.invokevirtual 159, 3) ∧ 11 + 3 = 14 := ⟨by decide +kernel, rfl⟩
theorem d_Mo_addPoint_14 : decode m_Mo_addPoint.2.1 14 = .ok (.aload_n 0, 1) ∧ 14 + 1 = 15 := ⟨by decide +kernel, rfl⟩
theorem d_Mo_addPoint_15 : decode m_Mo_addPoint.2.1 15 = .ok (.getfield 156, 3) ∧ 15 + 3 = 18 := ⟨by decide +kernel, rfl⟩
theorem d_Mo_addPoint_18 : decode m_Mo_addPoint.2.1 18 = .ok (.istore 9, 2) ∧ 18 + 2 = 20 := ⟨by decide +kernel, rfl⟩
theorem d_Mo_addPoint_20 : decode m_Mo_addPoint.2.1 20 = .ok (.iconst 0, 1) ∧ 20 + 1 = 21 := ⟨by decide +kernel, rfl⟩
theorem d_Mo_addPoint_21 : decode m_Mo_addPoint.2.1 21 = .ok (.istore 10, 2) ∧ 21 + 2 = 23 := ⟨by decide +kernel, rfl⟩
theorem d_Mo_addPoint_23 : decode m_Mo_addPoint.2.1 23 = .ok (.iload 10, 2) ∧ 23 + 2 = 25 := ⟨by decide +kernel, rfl⟩
theorem d_Mo_addPoint_25 : decode m_Mo_addPoint.2.1 25 = .ok (.aload_n 0, 1) ∧ 25 + 1 = 26 := ⟨by decide +kernel, rfl⟩
theorem d_Mo_addPoint_26 : decode m_Mo_addPoint.2.1 26 = .ok (.getfield 156, 3) ∧ 26 + 3 = 29 := ⟨by decide +kernel, rfl⟩
theorem d_Mo_addPoint_29 : decode m_Mo_addPoint.2.1 29 = .ok (.if_icmp .ge 23, 3) ∧ 29 + 3 = 32 ∧ (((29 : Nat) : Int) + (23) = ((52 : Nat) : Int)) := ⟨by decide +kernel, rfl, by decide⟩
theorem d_Mo_addPoint_32 : decode m_Mo_addPoint.2.1 32 = .ok (.aload_n 0, 1) ∧ 32 + 1 = 33 := ⟨by decide +kernel, rfl⟩
theorem d_Mo_addPoint_33 : decode m_Mo_addPoint.2.1 33 = .ok (.iload 10, 2) ∧ 33 + 2 = 35 := ⟨by decide +kernel, rfl⟩
theorem d_Mo_addPoint_35 : decode m_Mo_addPoint.2.1 35 = .ok (.aload_n 0, 1) ∧ 35 + 1 = 36 := ⟨by decide +kernel, rfl⟩
theorem d_Mo_addPoint_36 : decode m_Mo_addPoint.2.1 36 = .ok (.getfield 156, 3) ∧ 36 + 3 = 39 := ⟨by decide +kernel, rfl⟩
theorem d_Mo_addPoint_39 : decode m_Mo_addPoint.2.1 39 = .ok (.invokevirtual 163, 3) ∧ 39 + 3 = 42 := ⟨by decide +kernel, rfl⟩
theorem d_Mo_addPoint_42 : decode m_Mo_addPoint.2.1 42 = .ok (.ifCond .ne 4, 3) ∧ 42 + 3 = 45 ∧ (((42 : Nat) : Int) + (4) = ((46 : Nat) : Int)) := ⟨by decide +kernel, rfl, by decide⟩
theorem d_Mo_addPoint_45 : decode m_Mo_addPoint.2.1 45 = .ok (.return_, 1) := by decide +kernel
theorem d_Mo_addPoint_46 : decode m_Mo_addPoint.2.1 46 = .ok (.iinc 10 1, 3) ∧ 46 + 3 = 49 := ⟨by decide +kernel, rfl⟩
theorem d_Mo_addPoint_49 : decode m_Mo_addPoint.2.1 49 = .ok (.goto (-26), 3) ∧ (((49 : Nat) : Int) + (-26) = ((23 : Nat) : Int)) := ⟨by decide +kernel, by decide⟩
theorem d_Mo_addPoint_52 : decode m_Mo_addPoint.2.1 52 = .ok (.iload 9, 2) ∧ 52 + 2 = 54 := ⟨by decide +kernel, rfl⟩
theorem d_Mo_addPoint_54 : decode m_Mo_addPoint.2.1 54 = .ok (.ifCond .le 24, 3) ∧ 54 + 3 = 57 ∧ (((54 : Nat) : Int) + (24) = ((78 : Nat) : Int)) := ⟨by decide +kernel, rfl, by decide⟩
theorem d_Mo_addPoint_57 : decode m_Mo_addPoint.2.1 57 = .ok (.aload_n 0, 1) ∧ 57 + 1 = 58 := ⟨by decide +kernel, rfl⟩
theorem d_Mo_addPoint_58 : decode m_Mo_addPoint.2.1 58 = .ok (.iload 9, 2) ∧ 58 + 2 = 60 := ⟨by decide +kernel, rfl⟩
theorem d_Mo_addPoint_60 : decode m_Mo_addPoint.2.1 60 = .ok (.iconst 1, 1) ∧ 60 + 1 = 61 := ⟨by decide +kernel, rfl⟩
theorem d_Mo_addPoint_61 : decode m_Mo_addPoint.2.1 61 = .ok (.isub, 1) ∧ 61 + 1 = 62 := ⟨by decide +kernel, rfl⟩
theorem d_Mo_addPoint_62 : decode m_Mo_addPoint.2.1 62 = .ok (.aload_n 0, 1) ∧ 62 + 1 = 63 := ⟨by decide +kernel, rfl⟩
theorem d_Mo_addPoint_63 : decode m_Mo_addPoint.2.1 63 = .ok (.getfield 156, 3) ∧ 63 + 3 = 66 := ⟨by decide +kernel, rfl⟩
theorem d_Mo_addPoint_66 : decode m_Mo_addPoint.2.1 66 = .ok (.invokevirtual 163, 3) ∧ 66 + 3 = 69 := ⟨by decide +kernel, rfl⟩
theorem d_Mo_addPoint_69 : decode m_Mo_addPoint.2.1 69 = .ok (.ifCond .le 9, 3) ∧ 69 + 3 = 72 ∧ (((69 : Nat) : Int) + (9) = ((78 : Nat) : Int)) := ⟨by decide +kernel, rfl, by decide⟩
theorem d_Mo_addPoint_72 : decode m_Mo_addPoint.2.1 72 = .ok (.iinc 9 (-1), 3) ∧ 72 + 3 = 75 := ⟨by decide +kernel, rfl⟩
theorem d_Mo_addPoint_75 : decode m_Mo_addPoint.2.1 75 = .ok (.goto (-23), 3) ∧ (((75 : Nat) : Int) + (-23) = ((52 : Nat) : Int)) := ⟨by decide +kernel, by decide⟩
theorem d_Mo_addPoint_78 : decode m_Mo_addPoint.2.1 78 = .ok (.aload_n 0, 1) ∧ 78 + 1 = 79 := ⟨by decide +kernel, rfl⟩
theorem d_Mo_addPoint_79 : decode m_Mo_addPoint.2.1 79 = .ok (.aload_n 0, 1) ∧ 79 + 1 = 80 := ⟨by decide +kernel, rfl⟩
theorem d_Mo_addPoint_80 : decode m_Mo_addPoint.2.1 80 = .ok (.getfield 156, 3) ∧ 80 + 3 = 83 := ⟨by decide +kernel, rfl⟩
theorem d_Mo_addPoint_83 : decode m_Mo_addPoint.2.1 83 = .ok (.iconst 1, 1) ∧ 83 + 1 = 84 := ⟨by decide +kernel, rfl⟩
theorem d_Mo_addPoint_84 : decode m_Mo_addPoint.2.1 84 = .ok (.iadd, 1) ∧ 84 + 1 = 85 := ⟨by decide +kernel, rfl⟩
theorem d_Mo_addPoint_85 : decode m_Mo_addPoint.2.1 85 = .ok (.lload_n 1, 1) ∧ 85 + 1 = 86 := ⟨by decide +kernel, rfl⟩
theorem d_Mo_addPoint_86 : decode m_Mo_addPoint.2.1 86 = .ok (.lload_n 3, 1) ∧ 86 + 1 = 87 := ⟨by decide +kernel, rfl⟩
theorem d_Mo_addPoint_87 : decode m_Mo_addPoint.2.1 87 = .ok (.lload 5, 2) ∧ 87 + 2 = 89 := ⟨by decide +kernel, rfl⟩
theorem d_Mo_addPoint_89 : decode m_Mo_addPoint.2.1 89 = .ok (.lload 7, 2) ∧ 89 + 2 = 91 := ⟨by decide +kernel, rfl⟩
theorem d_Mo_addPoint_91 : decode m_Mo_addPoint.2.1 91 = .ok (.invokevirtual 159, 3) ∧ 91 + 3 = 94 := ⟨by decide +kernel, rfl⟩
theorem d_Mo_addPoint_94 : decode m_Mo_addPoint.2.1 94 = .ok (.aload_n 0, 1) ∧ 94 + 1 = 95 := ⟨by decide +kernel, rfl⟩
theorem d_Mo_addPoint_95 : decode m_Mo_addPoint.2.1 95 = .ok (.getfield 156, 3) ∧ 95 + 3 = 98 := ⟨by decide +kernel, rfl⟩
theorem d_Mo_addPoint_98 : decode m_Mo_addPoint.2.1 98 = .ok (.istore 10, 2) ∧ 98 + 2 = 100 := ⟨by decide +kernel, rfl⟩
theorem d_Mo_addPoint_100 : decode m_Mo_addPoint.2.1 100 = .ok (.iload 10, 2) ∧ 100 + 2 = 102 := ⟨by decide +kernel, rfl⟩
theorem d_Mo_addPoint_102 : decode m_Mo_addPoint.2.1 102 = .ok (.iload 9, 2) ∧ 102 + 2 = 104 := ⟨by decide +kernel, rfl⟩
theorem d_Mo_addPoint_104 : decode m_Mo_addPoint.2.1 104 = .ok (.if_icmp .le 73, 3) ∧ 104 + 3 = 107 ∧ (((104 : Nat) : Int) + (73) = ((177 : Nat) : Int)) := ⟨by decide +kernel, rfl, by decide⟩
theorem d_Mo_addPoint_107 : decode m_Mo_addPoint.2.1 107 = .ok (.aload_n 0, 1) ∧ 107 + 1 = 108 := ⟨by decide +kernel, rfl⟩
theorem d_Mo_addPoint_108 : decode m_Mo_addPoint.2.1 108 = .ok (.getfield 25, 3) ∧ 108 + 3 = 111 := ⟨by decide +kernel, rfl⟩
theorem d_Mo_addPoint_111 : decode m_Mo_addPoint.2.1 111 = .ok (.iload 10, 2) ∧ 111 + 2 = 113 := ⟨by decide +kernel, rfl⟩
theorem d_Mo_addPoint_113 : decode m_Mo_addPoint.2.1 113 = .ok (.aload_n 0, 1) ∧ 113 + 1 = 114 := ⟨by decide +kernel, rfl⟩
theorem d_Mo_addPoint_114 : decode m_Mo_addPoint.2.1 114 = .ok (.getfield 25, 3) ∧ 114 + 3 = 117 := ⟨by decide +kernel, rfl⟩
theorem d_Mo_addPoint_117 : decode m_Mo_addPoint.2.1 117 = .ok (.iload 10, 2) ∧ 117 + 2 = 119 := ⟨by decide +kernel, rfl⟩
theorem d_Mo_addPoint_119 : decode m_Mo_addPoint.2.1 119 = .ok (.iconst 1, 1) ∧ 119 + 1 = 120 := ⟨by decide +kernel, rfl⟩
theorem d_Mo_addPoint_120 : decode m_Mo_addPoint.2.1 120 = .ok (.isub, 1) ∧ 120 + 1 = 121 := ⟨by decide +kernel, rfl⟩
theorem d_Mo_addPoint_121 : decode m_Mo_addPoint.2.1 121 = .ok (.laload, 1) ∧ 121 + 1 = 122 := ⟨by decide +kernel, rfl⟩
theorem d_Mo_addPoint_122 : decode m_Mo_addPoint.2.1 122 = .ok (.lastore, 1) ∧ 122 + 1 = 123 := ⟨by decide +kernel, rfl⟩
theorem d_Mo_addPoint_123 : decode m_Mo_addPoint.2.1 123 = .ok (.aload_n 0, 1) ∧ 123 + 1 = 124 := ⟨by decide +kernel, rfl⟩
theorem d_Mo_addPoint_124 : decode m_Mo_addPoint.2.1 124 = .ok (.getfield 29, 3) ∧ 124 + 3 = 127 := ⟨by decide +kernel, rfl⟩
theorem d_Mo_addPoint_127 : decode m_Mo_addPoint.2.1 127 = .ok (.iload 10, 2) ∧ 127 + 2 = 129 := ⟨by decide +kernel, rfl⟩
theorem d_Mo_addPoint_129 : decode m_Mo_addPoint.2.1 129 = .ok (.aload_n 0, 1) ∧ 129 + 1 = 130 := ⟨by decide +kernel, rfl⟩
theorem d_Mo_addPoint_130 : decode m_Mo_addPoint.2.1 130 = .ok (.getfield 29, 3) ∧ 130 + 3 = 133 := ⟨by decide +kernel, rfl⟩
theorem d_Mo_addPoint_133 : decode m_Mo_addPoint.2.1 133 = .ok (.iload 10, 2) ∧ 133 + 2 = 135 := ⟨by decide +kernel, rfl⟩
theorem d_Mo_addPoint_135 : decode m_Mo_addPoint.2.1 135 = .ok (.iconst 1, 1) ∧ 135 + 1 = 136 := ⟨by decide +kernel, rfl⟩
theorem d_Mo_addPoint_136 : decode m_Mo_addPoint.2.1 136 = .ok (.isub, 1) ∧ 136 + 1 = 137 := ⟨by decide +kernel, rfl⟩
theorem d_Mo_addPoint_137 : decode m_Mo_addPoint.2.1 137 = .ok (.laload, 1) ∧ 137 + 1 = 138 := ⟨by decide +kernel, rfl⟩
theorem d_Mo_addPoint_138 : decode m_Mo_addPoint.2.1 138 = .ok (.lastore, 1) ∧ 138 + 1 = 139 := ⟨by decide +kernel, rfl⟩
theorem d_Mo_addPoint_139 : decode m_Mo_addPoint.2.1 139 = .ok (.aload_n 0, 1) ∧ 139 + 1 = 140 := ⟨by decide +kernel, rfl⟩
theorem d_Mo_addPoint_140 : decode m_Mo_addPoint.2.1 140 = .ok (.getfield 32, 3) ∧ 140 + 3 = 143 := ⟨by decide +kernel, rfl⟩
theorem d_Mo_addPoint_143 : decode m_Mo_addPoint.2.1 143 = .ok (.iload 10, 2) ∧ 143 + 2 = 145 := ⟨by decide +kernel, rfl⟩
theorem d_Mo_addPoint_145 : decode m_Mo_addPoint.2.1 145 = .ok (.aload_n 0, 1) ∧ 145 + 1 = 146 := ⟨by decide +kernel, rfl⟩
theorem d_Mo_addPoint_146 : decode m_Mo_addPoint.2.1 146 = .ok (.getfield 32, 3) ∧ 146 + 3 = 149 := ⟨by decide +kernel, rfl⟩
theorem d_Mo_addPoint_149 : decode m_Mo_addPoint.2.1 149 = .ok (.iload 10, 2) ∧ 149 + 2 = 151 := ⟨by decide +kernel, rfl⟩
theorem d_Mo_addPoint_151 : decode m_Mo_addPoint.2.1 151 = .ok (.iconst 1, 1) ∧ 151 + 1 = 152 := ⟨by decide +kernel, rfl⟩
theorem d_Mo_addPoint_152 : decode m_Mo_addPoint.2.1 152 = .ok (.isub, 1) ∧ 152 + 1 = 153 := ⟨by decide +kernel, rfl⟩
theorem d_Mo_addPoint_153 : decode m_Mo_addPoint.2.1 153 = .ok (.laload, 1) ∧ 153 + 1 = 154 := ⟨by decide +kernel, rfl⟩
theorem d_Mo_addPoint_154 : decode m_Mo_addPoint.2.1 154 = .ok (.lastore, 1) ∧ 154 + 1 = 155 := ⟨by decide +kernel, rfl⟩
theorem d_Mo_addPoint_155 : decode m_Mo_addPoint.2.1 155 = .ok (.aload_n 0, 1) ∧ 155 + 1 = 156 := ⟨by decide +kernel, rfl⟩
theorem d_Mo_addPoint_156 : decode m_Mo_addPoint.2.1 156 = .ok (.getfield 35, 3) ∧ 156 + 3 = 159 := ⟨by decide +kernel, rfl⟩
theorem d_Mo_addPoint_159 : decode m_Mo_addPoint.2.1 159 = .ok (.iload 10, 2) ∧ 159 + 2 = 161 := ⟨by decide +kernel, rfl⟩
theorem d_Mo_addPoint_161 : decode m_Mo_addPoint.2.1 161 = .ok (.aload_n 0, 1) ∧ 161 + 1 = 162 := ⟨by decide +kernel, rfl⟩
theorem d_Mo_addPoint_162 : decode m_Mo_addPoint.2.1 162 = .ok (.getfield 35, 3) ∧ 162 + 3 = 165 := ⟨by decide +kernel, rfl⟩
theorem d_Mo_addPoint_165 : decode m_Mo_addPoint.2.1 165 = .ok (.iload 10, 2) ∧ 165 + 2 = 167 := ⟨by decide +kernel, rfl⟩
theorem d_Mo_addPoint_167 : decode m_Mo_addPoint.2.1 167 = .ok (.iconst 1, 1) ∧ 167 + 1 = 168 := ⟨by decide +kernel, rfl⟩
theorem d_Mo_addPoint_168 : decode m_Mo_addPoint.2.1 168 = .ok (.isub, 1) ∧ 168 + 1 = 169 := ⟨by decide +kernel, rfl⟩
theorem d_Mo_addPoint_169 : decode m_Mo_addPoint.2.1 169 = .ok (.laload, 1) ∧ 169 + 1 = 170 := ⟨by decide +kernel, rfl⟩
theorem d_Mo_addPoint_170 : decode m_Mo_addPoint.2.1 170 = .ok (.lastore, 1) ∧ 170 + 1 = 171 := ⟨by decide +kernel, rfl⟩
theorem d_Mo_addPoint_171 : decode m_Mo_addPoint.2.1 171 = .ok (.iinc 10 (-1), 3) ∧ 171 + 3 = 174 := ⟨by decide +kernel, rfl⟩
theorem d_Mo_addPoint_174 : decode m_Mo_addPoint.2.1 174 = .ok (.goto (-74), 3) ∧ (((174 : Nat) : Int) + (-74) = ((100 : Nat) : Int)) := ⟨by decide +kernel, by decide⟩
theorem d_Mo_addPoint_177 : decode m_Mo_addPoint.2.1 177 = .ok (.aload_n 0, 1) ∧ 177 + 1 = 178 := ⟨by decide +kernel, rfl⟩
theorem d_Mo_addPoint_178 : decode m_Mo_addPoint.2.1 178 = .ok (.iload 9, 2) ∧ 178 + 2 = 180 := ⟨by decide +kernel, rfl⟩
theorem d_Mo_addPoint_180 : decode m_Mo_addPoint.2.1 180 = .ok (.lload_n 1, 1) ∧ 180 + 1 = 181 := ⟨by decide +kernel, rfl⟩
theorem d_Mo_addPoint_181 : decode m_Mo_addPoint.2.1 181 = .ok (.lload_n 3, 1) ∧ 181 + 1 = 182 := ⟨by decide +kernel, rfl⟩
theorem d_Mo_addPoint_182 : decode m_Mo_addPoint.2.1 182 = .ok (.lload 5, 2) ∧ 182 + 2 = 184 := ⟨by decide +kernel, rfl⟩
theorem d_Mo_addPoint_184 : decode m_Mo_addPoint.2.1 184 = .ok (.lload 7, 2) ∧ 184 + 2 = 186 := ⟨by decide +kernel, rfl⟩
theorem d_Mo_addPoint_186 : decode m_Mo_addPoint.2.1 186 = .ok (.invokevirtual 159, 3) ∧ 186 + 3 = 189 := ⟨by decide +kernel, rfl⟩
theorem d_Mo_addPoint_189 : decode m_Mo_addPoint.2.1 189 = .ok (.aload_n 0, 1) ∧ 189 + 1 = 190 := ⟨by decide +kernel, rfl⟩
theorem d_Mo_addPoint_190 : decode m_Mo_addPoint.2.1 190 = .ok (.dup, 1) ∧ 190 + 1 = 191 := ⟨by decide +kernel, rfl⟩
theorem d_Mo_addPoint_191 : decode m_Mo_addPoint.2.1 191 = .ok (.getfield 156, 3) ∧ 191 + 3 = 194 := ⟨by decide +kernel, rfl⟩
theorem d_Mo_addPoint_194 : decode m_Mo_addPoint.2.1 194 = .ok (.iconst 1, 1) ∧ 194 + 1 = 195 := ⟨by decide +kernel, rfl⟩
theorem d_Mo_addPoint_195 : decode m_Mo_addPoint.2.1 195 = .ok (.iadd, 1) ∧ 195 + 1 = 196 := ⟨by decide +kernel, rfl⟩
theorem d_Mo_addPoint_196 : decode m_Mo_addPoint.2.1 196 = .ok (.putfield 156, 3) ∧ 196 + 3 = 199 := ⟨by decide +kernel, rfl⟩
theorem d_Mo_addPoint_199 : decode m_Mo_addPoint.2.1 199 = .ok (.return_, 1) := by decide +kernel
theorem d_Mo_addRoots_0 : decode m_Mo_addRoots.2.1 0 = .ok (.aload_n 0, 1) ∧ 0 + 1 = 1 := ⟨by decide +kernel, rfl⟩
theorem d_Mo_addRoots_1 : decode m_Mo_addRoots.2.1 1 = .ok (.iload_n 1, 1) ∧ 1 + 1 = 2 := ⟨by decide +kernel, rfl⟩
theorem d_Mo_addRoots_2 : decode m_Mo_addRoots.2.1 2 = .ok (.invokevirtual 126, 3) ∧ 2 + 3 = 5 := ⟨by decide +kernel, rfl⟩
theorem d_Mo_addRoots_5 : decode m_Mo_addRoots.2.1 5 = .ok (.aload_n 0, 1) ∧ 5 + 1 = 6 := ⟨by decide +kernel, rfl⟩
theorem d_Mo_addRoots_6 : decode m_Mo_addRoots.2.1 6 = .ok (.iload_n 2, 1) ∧ 6 + 1 = 7 := ⟨by decide +kernel, rfl⟩
theorem d_Mo_addRoots_7 : decode m_Mo_addRoots.2.1 7 = .ok (.invokevirtual 126, 3) ∧ 7 + 3 = 10 := ⟨by decide +kernel, rfl⟩
theorem d_Mo_addRoots_10 : decode m_Mo_addRoots.2.1 10 = .ok (.isub, 1) ∧ 10 + 1 = 11 := ⟨by decide +kernel, rfl⟩
theorem d_Mo_addRoots_11 : decode m_Mo_addRoots.2.1 11 = .ok (.istore_n 3, 1) ∧ 11 + 1 = 12 := ⟨by decide +kernel, rfl⟩
theorem d_Mo_addRoots_12 : decode m_Mo_addRoots.2.1 12 = .ok (.aload_n 0, 1) ∧ 12 + 1 = 13 := ⟨by decide +kernel, rfl⟩
theorem d_Mo_addRoots_13 : decode m_Mo_addRoots.2.1 13 = .ok (.iload_n 1, 1) ∧ 13 + 1 = 14 := ⟨by decide +kernel, rfl⟩
theorem d_Mo_addRoots_14 : decode m_Mo_addRoots.2.1 14 = .ok (.invokevirtual 129, 3) ∧ 14 + 3 = 17 := ⟨by decide +kernel, rfl⟩
theorem d_Mo_addRoots_17 : decode m_Mo_addRoots.2.1 17 = .ok (.aload_n 0, 1) ∧ 17 + 1 = 18 := ⟨by decide +kernel, rfl⟩
theorem d_Mo_addRoots_18 : decode m_Mo_addRoots.2.1 18 = .ok (.iload_n 2, 1) ∧ 18 + 1 = 19 := ⟨by decide +kernel, rfl⟩
theorem d_Mo_addRoots_19 : decode m_Mo_addRoots.2.1 19 = .ok (.invokevirtual 129, 3) ∧ 19 + 3 = 22 := ⟨by decide +kernel, rfl⟩
theorem d_Mo_addRoots_22 : decode m_Mo_addRoots.2.1 22 = .ok (.isub, 1) ∧ 22 + 1 = 23 := ⟨by decide +kernel, rfl⟩
theorem d_Mo_addRoots_23 : decode m_Mo_addRoots.2.1 23 = .ok (.istore 4, 2) ∧ 23 + 2 = 25 := ⟨by decide +kernel, rfl⟩
theorem d_Mo_addRoots_25 : decode m_Mo_addRoots.2.1 25 = .ok (.aload_n 0, 1) ∧ 25 + 1 = 26 := ⟨by decide +kernel, rfl⟩
theorem d_Mo_addRoots_26 : decode m_Mo_addRoots.2.1 26 = .ok (.getfield 19, 3) ∧ 26 + 3 = 29 := ⟨by decide +kernel, rfl⟩
theorem d_Mo_addRoots_29 : decode m_Mo_addRoots.2.1 29 = .ok (.iload_n 1, 1) ∧ 29 + 1 = 30 := ⟨by decide +kernel, rfl⟩
theorem d_Mo_addRoots_30 : decode m_Mo_addRoots.2.1 30 = .ok (.iaload, 1) ∧ 30 + 1 = 31 := ⟨by decide +kernel, rfl⟩
theorem d_Mo_addRoots_31 : decode m_Mo_addRoots.2.1 31 = .ok (.aload_n 0, 1) ∧ 31 + 1 = 32 := ⟨by decide +kernel, rfl⟩
theorem d_Mo_addRoots_32 : decode m_Mo_addRoots.2.1 32 = .ok (.getfield 19, 3) ∧ 32 + 3 = 35 := ⟨by decide +kernel, rfl⟩
theorem d_Mo_addRoots_35 : decode m_Mo_addRoots.2.1 35 = .ok (.iload_n 2, 1) ∧ 35 + 1 = 36 := ⟨by decide +kernel, rfl⟩
theorem d_Mo_addRoots_36 : decode m_Mo_addRoots.2.1 36 = .ok (.iaload, 1) ∧ 36 + 1 = 37 := ⟨by decide +kernel, rfl⟩
theorem d_Mo_addRoots_37 : decode m_Mo_addRoots.2.1 37 = .ok (.isub, 1) ∧ 37 + 1 = 38 := ⟨by decide +kernel, rfl⟩
theorem d_Mo_addRoots_38 : decode m_Mo_addRoots.2.1 38 = .ok (.istore 5, 2) ∧ 38 + 2 = 40 := ⟨by decide +kernel, rfl⟩
theorem d_Mo_addRoots_40 : decode m_Mo_addRoots.2.1 40 = .ok (.iload 4, 2) ∧ 40 + 2 = 42 := ⟨by decide +kernel, rfl⟩
theorem d_Mo_addRoots_42 : decode m_Mo_addRoots.2.1 42 = .ok (.iload 4, 2) ∧ 42 + 2 = 44 := ⟨by decide +kernel, rfl⟩
theorem d_Mo_addRoots_44 : decode m_Mo_addRoots.2.1 44 = .ok (.imul, 1) ∧ 44 + 1 = 45 := ⟨by decide +kernel, rfl⟩
theorem d_Mo_addRoots_45 : decode m_Mo_addRoots.2.1 45 = .ok (.iconst 4, 1) ∧ 45 + 1 = 46 := ⟨by decide +kernel, rfl⟩
theorem d_Mo_addRoots_46 : decode m_Mo_addRoots.2.1 46 = .ok (.iload_n 3, 1) ∧ 46 + 1 = 47 := ⟨by decide +kernel, rfl⟩
theorem d_Mo_addRoots_47 : decode m_Mo_addRoots.2.1 47 = .ok (.imul, 1) ∧ 47 + 1 = 48 := ⟨by decide +kernel, rfl⟩
theorem d_Mo_addRoots_48 : decode m_Mo_addRoots.2.1 48 = .ok (.iload 5, 2) ∧ 48 + 2 = 50 := ⟨by decide +kernel, rfl⟩
theorem d_Mo_addRoots_50 : decode m_Mo_addRoots.2.1 50 = .ok (.imul, 1) ∧ 50 + 1 = 51 := ⟨by decide +kernel, rfl⟩
theorem d_Mo_addRoots_51 : decode m_Mo_addRoots.2.1 51 = .ok (.isub, 1) ∧ 51 + 1 = 52 := ⟨by decide +kernel, rfl⟩
theorem d_Mo_addRoots_52 : decode m_Mo_addRoots.2.1 52 = .ok (.istore 6, 2) ∧ 52 + 2 = 54 := ⟨by decide +kernel, rfl⟩
theorem d_Mo_addRoots_54 : decode m_Mo_addRoots.2.1 54 = .ok (.iload_n 3, 1) ∧ 54 + 1 = 55 := ⟨by decide +kernel, rfl⟩
theorem d_Mo_addRoots_55 : decode m_Mo_addRoots.2.1 55 = .ok (.ifCond .ne 22, 3) ∧ 55 + 3 = 58 ∧ (((55 : Nat) : Int) + (22) = ((77 : Nat) : Int)) := ⟨by decide +kernel, rfl, by decide⟩
theorem d_Mo_addRoots_58 : decode m_Mo_addRoots.2.1 58 = .ok (.iload 4, 2) ∧ 58 + 2 = 60 := ⟨by decide +kernel, rfl⟩
theorem d_Mo_addRoots_60 : decode m_Mo_addRoots.2.1 60 = .ok (.ifCond .eq 17, 3) ∧ 60 + 3 = 63 ∧ (((60 : Nat) : Int) + (17) = ((77 : Nat) : Int)) := ⟨by decide +kernel, rfl, by decide⟩
theorem d_Mo_addRoots_63 : decode m_Mo_addRoots.2.1 63 = .ok (.aload_n 0, 1) ∧ 63 + 1 = 64 := ⟨by decide +kernel, rfl⟩
theorem d_Mo_addRoots_64 : decode m_Mo_addRoots.2.1 64 = .ok (.iconst 0, 1) ∧ 64 + 1 = 65 := ⟨by decide +kernel, rfl⟩
theorem d_Mo_addRoots_65 : decode m_Mo_addRoots.2.1 65 = .ok (.iload 5, 2) ∧ 65 + 2 = 67 := ⟨by decide +kernel, rfl⟩
theorem d_Mo_addRoots_67 : decode m_Mo_addRoots.2.1 67 = .ok (.isub, 1) ∧ 67 + 1 = 68 := ⟨by decide +kernel, rfl⟩
theorem d_Mo_addRoots_68 : decode m_Mo_addRoots.2.1 68 = .ok (.i2l, 1) ∧ 68 + 1 = 69 := ⟨by decide +kernel, rfl⟩
theorem d_Mo_addRoots_69 : decode m_Mo_addRoots.2.1 69 = .ok (.lconst 0, 1) ∧ 69 + 1 = 70 := ⟨by decide +kernel, rfl⟩
theorem d_Mo_addRoots_70 : decode m_Mo_addRoots.2.1 70 = .ok (.lconst 0, 1) ∧ 70 + 1 = 71 := ⟨by decide +kernel, rfl⟩
theorem d_Mo_addRoots_71 : decode m_Mo_addRoots.2.1 71 = .ok (.iload 4, 2) ∧ 71 + 2 = 73 := ⟨by decide +kernel, rfl⟩
theorem d_Mo_addRoots_73 : decode m_Mo_addRoots.2.1 73 = .ok (.i2l, 1) ∧ 73 + 1 = 74 := ⟨by decide +kernel, rfl⟩
theorem d_Mo_addRoots_74 : decode m_Mo_addRoots.2.1 74 = .ok (.invokevirtual 167, 3) ∧ 74 + 3 = 77 := ⟨by decide +kernel, rfl⟩
theorem d_Mo_addRoots_77 : decode m_Mo_addRoots.2.1 77 = .ok (.iload_n 3, 1) ∧ 77 + 1 = 78 := ⟨by decide +kernel, rfl⟩
theorem d_Mo_addRoots_78 : decode m_Mo_addRoots.2.1 78 = .ok (.ifCond .eq 44, 3) ∧ 78 + 3 = 81 ∧ (((78 : Nat) : Int) + (44) = ((122 : Nat) : Int)) := ⟨by decide +kernel, rfl, by decide⟩
theorem d_Mo_addRoots_81 : decode m_Mo_addRoots.2.1 81 = .ok (.iload 6, 2) ∧ 81 + 2 = 83 := ⟨by decide +kernel, rfl⟩
theorem d_Mo_addRoots_83 : decode m_Mo_addRoots.2.1 83 = .ok (.ifCond .lt 39, 3) ∧ 83 + 3 = 86 ∧ (((83 : Nat) : Int) + (39) = ((122 : Nat) : Int)) := ⟨by decide +kernel, rfl, by decide⟩
theorem d_Mo_addRoots_86 : decode m_Mo_addRoots.2.1 86 = .ok (.aload_n 0, 1) ∧ 86 + 1 = 87 := ⟨by decide +kernel, rfl⟩
theorem d_Mo_addRoots_87 : decode m_Mo_addRoots.2.1 87 = .ok (.iconst 0, 1) ∧ 87 + 1 = 88 := ⟨by decide +kernel, rfl⟩
theorem d_Mo_addRoots_88 : decode m_Mo_addRoots.2.1 88 = .ok (.iload 4, 2) ∧ 88 + 2 = 90 := ⟨by decide +kernel, rfl⟩
theorem d_Mo_addRoots_90 : decode m_Mo_addRoots.2.1 90 = .ok (.isub, 1) ∧ 90 + 1 = 91 := ⟨by decide +kernel, rfl⟩
theorem d_Mo_addRoots_91 : decode m_Mo_addRoots.2.1 91 = .ok (.i2l, 1) ∧ 91 + 1 = 92 := ⟨by decide +kernel, rfl⟩
theorem d_Mo_addRoots_92 : decode m_Mo_addRoots.2.1 92 = .ok (.lconst 1, 1) ∧ 92 + 1 = 93 := ⟨by decide +kernel, rfl⟩
theorem d_Mo_addRoots_93 : decode m_Mo_addRoots.2.1 93 = .ok (.iload 6, 2) ∧ 93 + 2 = 95 := ⟨by decide +kernel, rfl⟩
theorem d_Mo_addRoots_95 : decode m_Mo_addRoots.2.1 95 = .ok (.i2l, 1) ∧ 95 + 1 = 96 := ⟨by decide +kernel, rfl⟩
theorem d_Mo_addRoots_96 : decode m_Mo_addRoots.2.1 96 = .ok (.iconst 2, 1) ∧ 96 + 1 = 97 := ⟨by decide +kernel, rfl⟩
theorem d_Mo_addRoots_97 : decode m_Mo_addRoots.2.1 97 = .ok (.iload_n 3, 1) ∧ 97 + 1 = 98 := ⟨by decide +kernel, rfl⟩
theorem d_Mo_addRoots_98 : decode m_Mo_addRoots.2.1 98 = .ok (.imul, 1) ∧ 98 + 1 = 99 := ⟨by decide +kernel, rfl⟩
theorem d_Mo_addRoots_99 : decode m_Mo_addRoots.2.1 99 = .ok (.i2l, 1) ∧ 99 + 1 = 100 := ⟨by decide +kernel, rfl⟩
theorem d_Mo_addRoots_100 : decode m_Mo_addRoots.2.1 100 = .ok (.invokevirtual 167, 3) ∧ 100 + 3 = 103 := ⟨by decide +kernel, rfl⟩
theorem d_Mo_addRoots_103 : decode m_Mo_addRoots.2.1 103 = .ok (.aload_n 0, 1) ∧ 103 + 1 = 104 := ⟨by decide +kernel, rfl⟩
theorem d_Mo_addRoots_104 : decode m_Mo_addRoots.2.1 104 = .ok (.iconst 0, 1) ∧ 104 + 1 = 105 := ⟨by decide +kernel, rfl⟩
theorem d_Mo_addRoots_105 : decode m_Mo_addRoots.2.1 105 = .ok (.iload 4, 2) ∧ 105 + 2 = 107 := ⟨by decide +kernel, rfl⟩
theorem d_Mo_addRoots_107 : decode m_Mo_addRoots.2.1 107 = .ok (.isub, 1) ∧ 107 + 1 = 108 := ⟨by decide +kernel, rfl⟩
theorem d_Mo_addRoots_108 : decode m_Mo_addRoots.2.1 108 = .ok (.i2l, 1) ∧ 108 + 1 = 109 := ⟨by decide +kernel, rfl⟩
theorem d_Mo_addRoots_109 : decode m_Mo_addRoots.2.1 109 = .ok (.ldc2_w 171, 3) ∧ 109 + 3 = 112 := ⟨by decide +kernel, rfl⟩
theorem d_Mo_addRoots_112 : decode m_Mo_addRoots.2.1 112 = .ok (.iload 6, 2) ∧ 112 + 2 = 114 := ⟨by decide +kernel, rfl⟩
theorem d_Mo_addRoots_114 : decode m_Mo_addRoots.2.1 114 = .ok (.i2l, 1) ∧ 114 + 1 = 115 := ⟨by decide +kernel, rfl⟩
theorem d_Mo_addRoots_115 : decode m_Mo_addRoots.2.1 115 = .ok (.iconst 2, 1) ∧ 115 + 1 = 116 := ⟨by decide +kernel, rfl⟩
theorem d_Mo_addRoots_116 : decode m_Mo_addRoots.2.1 116 = .ok (.iload_n 3, 1) ∧ 116 + 1 = 117 := ⟨by decide +kernel, rfl⟩
theorem d_Mo_addRoots_117 : decode m_Mo_addRoots.2.1 117 = .ok (.imul, 1) ∧ 117 + 1 = 118 := ⟨by decide +kernel, rfl⟩
theorem d_Mo_addRoots_118 : decode m_Mo_addRoots.2.1 118 = .ok (.i2l, 1) ∧ 118 + 1 = 119 := ⟨by decide +kernel, rfl⟩
theorem d_Mo_addRoots_119 : decode m_Mo_addRoots.2.1 119 = .ok (.invokevirtual 167, 3) ∧ 119 + 3 = 122 := ⟨by decide +kernel, rfl⟩
theorem d_Mo_addRoots_122 : decode m_Mo_addRoots.2.1 122 = .ok (.return_, 1) := by decide +kernel
theorem d_Mo_layPoints_0 : decode m_Mo_layPoints.2.1 0 = .ok (.aload_n 0, 1) ∧ 0 + 1 = 1 := ⟨by decide +kernel, rfl⟩
theorem d_Mo_layPoints_1 : decode m_Mo_layPoints.2.1 1 = .ok (.iconst 0, 1) ∧ 1 + 1 = 2 := ⟨by decide +kernel, rfl⟩
theorem d_Mo_layPoints_2 : decode m_Mo_layPoints.2.1 2 = .ok (.putfield 156, 3) ∧ 2 + 3 = 5 := ⟨by decide +kernel, rfl⟩
theorem d_Mo_layPoints_5 : decode m_Mo_layPoints.2.1 5 = .ok (.iconst 0, 1) ∧ 5 + 1 = 6 := ⟨by decide +kernel, rfl⟩
theorem d_Mo_layPoints_6 : decode m_Mo_layPoints.2.1 6 = .ok (.istore_n 2, 1) ∧ 6 + 1 = 7 := ⟨by decide +kernel, rfl⟩
theorem d_Mo_layPoints_7 : decode m_Mo_layPoints.2.1 7 = .ok (.iload_n 2, 1) ∧ 7 + 1 = 8 := ⟨by decide +kernel, rfl⟩
theorem d_Mo_layPoints_8 : decode m_Mo_layPoints.2.1 8 = .ok (.aload_n 0, 1) ∧ 8 + 1 = 9 := ⟨by decide +kernel, rfl⟩
theorem d_Mo_layPoints_9 : decode m_Mo_layPoints.2.1 9 = .ok (.getfield 103, 3) ∧ 9 + 3 = 12 := ⟨by decide +kernel, rfl⟩
theorem d_Mo_layPoints_12 : decode m_Mo_layPoints.2.1 12 = .ok (.if_icmp .ge 81, 3) ∧ 12 + 3 = 15 ∧ (((12 : Nat) : Int) + (81) = ((93 : Nat) : Int)) := ⟨by decide +kernel, rfl, by decide⟩
theorem d_Mo_layPoints_15 : decode m_Mo_layPoints.2.1 15 = .ok (.iload_n 2, 1) ∧ 15 + 1 = 16 := ⟨by decide +kernel, rfl⟩
theorem d_Mo_layPoints_16 : decode m_Mo_layPoints.2.1 16 = .ok (.iload_n 1, 1) ∧ 16 + 1 = 17 := ⟨by decide +kernel, rfl⟩
theorem d_Mo_layPoints_17 : decode m_Mo_layPoints.2.1 17 = .ok (.if_icmp .eq 25, 3) ∧ 17 + 3 = 20 ∧ (((17 : Nat) : Int) + (25) = ((42 : Nat) : Int)) := ⟨by decide +kernel, rfl, by decide⟩
theorem d_Mo_layPoints_20 : decode m_Mo_layPoints.2.1 20 = .ok (.aload_n 0, 1) ∧ 20 + 1 = 21 := ⟨by decide +kernel, rfl⟩
theorem d_Mo_layPoints_21 : decode m_Mo_layPoints.2.1 21 = .ok (.iload_n 2, 1) ∧ 21 + 1 = 22 := ⟨by decide +kernel, rfl⟩
theorem d_Mo_layPoints_22 : decode m_Mo_layPoints.2.1 22 = .ok (.invokevirtual 173, 3) ∧ 22 + 3 = 25 := ⟨by decide +kernel, rfl⟩
theorem d_Mo_layPoints_25 : decode m_Mo_layPoints.2.1 25 = .ok (.ifCond .eq 17, 3) ∧ 25 + 3 = 28 ∧ (((25 : Nat) : Int) + (17) = ((42 : Nat) : Int)) := ⟨by decide +kernel, rfl, by decide⟩
theorem d_Mo_layPoints_28 : decode m_Mo_layPoints.2.1 28 = .ok (.aload_n 0, 1) ∧ 28 + 1 = 29 := ⟨by decide +kernel, rfl⟩
theorem d_Mo_layPoints_29 : decode m_Mo_layPoints.2.1 29 = .ok (.aload_n 0, 1) ∧ 29 + 1 = 30 := ⟨by decide +kernel, rfl⟩
theorem d_Mo_layPoints_30 : decode m_Mo_layPoints.2.1 30 = .ok (.getfield 19, 3) ∧ 30 + 3 = 33 := ⟨by decide +kernel, rfl⟩
theorem d_Mo_layPoints_33 : decode m_Mo_layPoints.2.1 33 = .ok (.iload_n 2, 1) ∧ 33 + 1 = 34 := ⟨by decide +kernel, rfl⟩
theorem d_Mo_layPoints_34 : decode m_Mo_layPoints.2.1 34 = .ok (.iaload, 1) ∧ 34 + 1 = 35 := ⟨by decide +kernel, rfl⟩
theorem d_Mo_layPoints_35 : decode m_Mo_layPoints.2.1 35 = .ok (.i2l, 1) ∧ 35 + 1 = 36 := ⟨by decide +kernel, rfl⟩
theorem d_Mo_layPoints_36 : decode m_Mo_layPoints.2.1 36 = .ok (.lconst 0, 1) ∧ 36 + 1 = 37 := ⟨by decide +kernel, rfl⟩
theorem d_Mo_layPoints_37 : decode m_Mo_layPoints.2.1 37 = .ok (.lconst 0, 1) ∧ 37 + 1 = 38 := ⟨by decide +kernel, rfl⟩
theorem d_Mo_layPoints_38 : decode m_Mo_layPoints.2.1 38 = .ok (.lconst 1, 1) ∧ 38 + 1 = 39 := ⟨by decide +kernel, rfl⟩
theorem d_Mo_layPoints_39 : decode m_Mo_layPoints.2.1 39 = .ok (.invokevirtual 167, 3) ∧ 39 + 3 = 42 := ⟨by decide +kernel, rfl⟩
theorem d_Mo_layPoints_42 : decode m_Mo_layPoints.2.1 42 = .ok (.iconst 0, 1) ∧ 42 + 1 = 43 := ⟨by decide +kernel, rfl⟩
theorem d_Mo_layPoints_43 : decode m_Mo_layPoints.2.1 43 = .ok (.istore_n 3, 1) ∧ 43 + 1 = 44 := ⟨by decide +kernel, rfl⟩
theorem d_Mo_layPoints_44 : decode m_Mo_layPoints.2.1 44 = .ok (.iload_n 3, 1) ∧ 44 + 1 = 45 := ⟨by decide +kernel, rfl⟩
theorem d_Mo_layPoints_45 : decode m_Mo_layPoints.2.1 45 = .ok (.iload_n 2, 1) ∧ 45 + 1 = 46 := ⟨by decide +kernel, rfl⟩
theorem d_Mo_layPoints_46 : decode m_Mo_layPoints.2.1 46 = .ok (.if_icmp .ge 41, 3) ∧ 46 + 3 = 49 ∧ (((46 : Nat) : Int) + (41) = ((87 : Nat) : Int)) := ⟨by decide +kernel, rfl, by decide⟩
theorem d_Mo_layPoints_49 : decode m_Mo_layPoints.2.1 49 = .ok (.iload_n 2, 1) ∧ 49 + 1 = 50 := ⟨by decide +kernel, rfl⟩
theorem d_Mo_layPoints_50 : decode m_Mo_layPoints.2.1 50 = .ok (.iload_n 1, 1) ∧ 50 + 1 = 51 := ⟨by decide +kernel, rfl⟩
theorem d_Mo_layPoints_51 : decode m_Mo_layPoints.2.1 51 = .ok (.if_icmp .eq 30, 3) ∧ 51 + 3 = 54 ∧ (((51 : Nat) : Int) + (30) = ((81 : Nat) : Int)) := ⟨by decide +kernel, rfl, by decide⟩
theorem d_Mo_layPoints_54 : decode m_Mo_layPoints.2.1 54 = .ok (.iload_n 3, 1) ∧ 54 + 1 = 55 := ⟨by decide +kernel, rfl⟩
theorem d_Mo_layPoints_55 : decode m_Mo_layPoints.2.1 55 = .ok (.iload_n 1, 1) ∧ 55 + 1 = 56 := ⟨by decide +kernel, rfl⟩
theorem d_Mo_layPoints_56 : decode m_Mo_layPoints.2.1 56 = .ok (.if_icmp .eq 25, 3) ∧ 56 + 3 = 59 ∧ (((56 : Nat) : Int) + (25) = ((81 : Nat) : Int)) := ⟨by decide +kernel, rfl, by decide⟩
theorem d_Mo_layPoints_59 : decode m_Mo_layPoints.2.1 59 = .ok (.aload_n 0, 1) ∧ 59 + 1 = 60 := ⟨by decide +kernel, rfl⟩
theorem d_Mo_layPoints_60 : decode m_Mo_layPoints.2.1 60 = .ok (.iload_n 2, 1) ∧ 60 + 1 = 61 := ⟨by decide +kernel, rfl⟩
theorem d_Mo_layPoints_61 : decode m_Mo_layPoints.2.1 61 = .ok (.invokevirtual 173, 3) ∧ 61 + 3 = 64 := ⟨by decide +kernel, rfl⟩
theorem d_Mo_layPoints_64 : decode m_Mo_layPoints.2.1 64 = .ok (.ifCond .ne 17, 3) ∧ 64 + 3 = 67 ∧ (((64 : Nat) : Int) + (17) = ((81 : Nat) : Int)) := ⟨by decide +kernel, rfl, by decide⟩
theorem d_Mo_layPoints_67 : decode m_Mo_layPoints.2.1 67 = .ok (.aload_n 0, 1) ∧ 67 + 1 = 68 := ⟨by decide +kernel, rfl⟩
theorem d_Mo_layPoints_68 : decode m_Mo_layPoints.2.1 68 = .ok (.iload_n 3, 1) ∧ 68 + 1 = 69 := ⟨by decide +kernel, rfl⟩
theorem d_Mo_layPoints_69 : decode m_Mo_layPoints.2.1 69 = .ok (.invokevirtual 173, 3) ∧ 69 + 3 = 72 := ⟨by decide +kernel, rfl⟩
theorem d_Mo_layPoints_72 : decode m_Mo_layPoints.2.1 72 = .ok (.ifCond .ne 9, 3) ∧ 72 + 3 = 75 ∧ (((72 : Nat) : Int) + (9) = ((81 : Nat) : Int)) := ⟨by decide +kernel, rfl, by decide⟩
theorem d_Mo_layPoints_75 : decode m_Mo_layPoints.2.1 75 = .ok (.aload_n 0, 1) ∧ 75 + 1 = 76 := ⟨by decide +kernel, rfl⟩
theorem d_Mo_layPoints_76 : decode m_Mo_layPoints.2.1 76 = .ok (.iload_n 3, 1) ∧ 76 + 1 = 77 := ⟨by decide +kernel, rfl⟩
theorem d_Mo_layPoints_77 : decode m_Mo_layPoints.2.1 77 = .ok (.iload_n 2, 1) ∧ 77 + 1 = 78 := ⟨by decide +kernel, rfl⟩
theorem d_Mo_layPoints_78 : decode m_Mo_layPoints.2.1 78 = .ok (.invokevirtual 176, 3) ∧ 78 + 3 = 81 := ⟨by decide +kernel, rfl⟩
theorem d_Mo_layPoints_81 : decode m_Mo_layPoints.2.1 81 = .ok (.iinc 3 1, 3) ∧ 81 + 3 = 84 := ⟨by decide +kernel, rfl⟩
theorem d_Mo_layPoints_84 : decode m_Mo_layPoints.2.1 84 = .ok (.goto (-40), 3) ∧ (((84 : Nat) : Int) + (-40) = ((44 : Nat) : Int)) := ⟨by decide +kernel, by decide⟩
theorem d_Mo_layPoints_87 : decode m_Mo_layPoints.2.1 87 = .ok (.iinc 2 1, 3) ∧ 87 + 3 = 90 := ⟨by decide +kernel, rfl⟩
theorem d_Mo_layPoints_90 : decode m_Mo_layPoints.2.1 90 = .ok (.goto (-83), 3) ∧ (((90 : Nat) : Int) + (-83) = ((7 : Nat) : Int)) := ⟨by decide +kernel, by decide⟩
theorem d_Mo_layPoints_93 : decode m_Mo_layPoints.2.1 93 = .ok (.return_, 1) := by decide +kernel
theorem d_Mo_laySample_0 : decode m_Mo_laySample.2.1 0 = .ok (.iload_n 2, 1) ∧ 0 + 1 = 1 := ⟨by decide +kernel, rfl⟩
theorem d_Mo_laySample_1 : decode m_Mo_laySample.2.1 1 = .ok (.ifCond .eq 11, 3) ∧ 1 + 3 = 4 ∧ (((1 : Nat) : Int) + (11) = ((12 : Nat) : Int)) := ⟨by decide +kernel, rfl, by decide⟩
theorem d_Mo_laySample_4 : decode m_Mo_laySample.2.1 4 = .ok (.iload_n 2, 1) ∧ 4 + 1 = 5 := ⟨by decide +kernel, rfl⟩
theorem d_Mo_laySample_5 : decode m_Mo_laySample.2.1 5 = .ok (.aload_n 0, 1) ∧ 5 + 1 = 6 := ⟨by decide +kernel, rfl⟩
theorem d_Mo_laySample_6 : decode m_Mo_laySample.2.1 6 = .ok (.getfield 156, 3) ∧ 6 + 3 = 9 := ⟨by decide +kernel, rfl⟩
theorem d_Mo_laySample_9 : decode m_Mo_laySample.2.1 9 = .ok (.if_icmp .ne 53, 3) ∧ 9 + 3 = 12 ∧ (((9 : Nat) : Int) + (53) = ((62 : Nat) : Int)) := ⟨by decide +kernel, rfl, by decide⟩
theorem d_Mo_laySample_12 : decode m_Mo_laySample.2.1 12 = .ok (.aload_n 0, 1) ∧ 12 + 1 = 13 := ⟨by decide +kernel, rfl⟩
theorem d_Mo_laySample_13 : decode m_Mo_laySample.2.1 13 = .ok (.getfield 156, 3) ∧ 13 + 3 = 16 := ⟨by decide +kernel, rfl⟩
theorem d_Mo_laySample_16 : decode m_Mo_laySample.2.1 16 = .ok (.ifCond .ne 7, 3) ∧ 16 + 3 = 19 ∧ (((16 : Nat) : Int) + (7) = ((23 : Nat) : Int)) := ⟨by decide +kernel, rfl, by decide⟩
theorem d_Mo_laySample_19 : decode m_Mo_laySample.2.1 19 = .ok (.lconst 0, 1) ∧ 19 + 1 = 20 := ⟨by decide +kernel, rfl⟩
theorem d_Mo_laySample_20 : decode m_Mo_laySample.2.1 20 = .ok (.goto 31, 3) ∧ (((20 : Nat) : Int) + (31) = ((51 : Nat) : Int)) := ⟨by decide +kernel, by decide⟩
theorem d_Mo_laySample_23 : decode m_Mo_laySample.2.1 23 = .ok (.iload_n 2, 1) ∧ 23 + 1 = 24 := ⟨by decide +kernel, rfl⟩
theorem d_Mo_laySample_24 : decode m_Mo_laySample.2.1 24 = .ok (.ifCond .ne 14, 3) ∧ 24 + 3 = 27 ∧ (((24 : Nat) : Int) + (14) = ((38 : Nat) : Int)) := ⟨by decide +kernel, rfl, by decide⟩
theorem d_Mo_laySample_27 : decode m_Mo_laySample.2.1 27 = .ok (.aload_n 0, 1) ∧ 27 + 1 = 28 := ⟨by decide +kernel, rfl⟩
theorem d_Mo_laySample_28 : decode m_Mo_laySample.2.1 28 = .ok (.iconst 0, 1) ∧ 28 + 1 = 29 := ⟨by decide +kernel, rfl⟩
theorem d_Mo_laySample_29 : decode m_Mo_laySample.2.1 29 = .ok (.lconst 1, 1) ∧ 29 + 1 = 30 := ⟨by decide +kernel, rfl⟩
theorem d_Mo_laySample_30 : decode m_Mo_laySample.2.1 30 = .ok (.invokevirtual 180, 3) ∧ 30 + 3 = 33 := ⟨by decide +kernel, rfl⟩
theorem d_Mo_laySample_33 : decode m_Mo_laySample.2.1 33 = .ok (.lconst 1, 1) ∧ 33 + 1 = 34 := ⟨by decide +kernel, rfl⟩
theorem d_Mo_laySample_34 : decode m_Mo_laySample.2.1 34 = .ok (.lsub, 1) ∧ 34 + 1 = 35 := ⟨by decide +kernel, rfl⟩
theorem d_Mo_laySample_35 : decode m_Mo_laySample.2.1 35 = .ok (.goto 16, 3) ∧ (((35 : Nat) : Int) + (16) = ((51 : Nat) : Int)) := ⟨by decide +kernel, by decide⟩
theorem d_Mo_laySample_38 : decode m_Mo_laySample.2.1 38 = .ok (.aload_n 0, 1) ∧ 38 + 1 = 39 := ⟨by decide +kernel, rfl⟩
theorem d_Mo_laySample_39 : decode m_Mo_laySample.2.1 39 = .ok (.aload_n 0, 1) ∧ 39 + 1 = 40 := ⟨by decide +kernel, rfl⟩
theorem d_Mo_laySample_40 : decode m_Mo_laySample.2.1 40 = .ok (.getfield 156, 3) ∧ 40 + 3 = 43 := ⟨by decide +kernel, rfl⟩
theorem d_Mo_laySample_43 : decode m_Mo_laySample.2.1 43 = .ok (.iconst 1, 1) ∧ 43 + 1 = 44 := ⟨by decide +kernel, rfl⟩
theorem d_Mo_laySample_44 : decode m_Mo_laySample.2.1 44 = .ok (.isub, 1) ∧ 44 + 1 = 45 := ⟨by decide +kernel, rfl⟩
theorem d_Mo_laySample_45 : decode m_Mo_laySample.2.1 45 = .ok (.lconst 1, 1) ∧ 45 + 1 = 46 := ⟨by decide +kernel, rfl⟩
theorem d_Mo_laySample_46 : decode m_Mo_laySample.2.1 46 = .ok (.invokevirtual 180, 3) ∧ 46 + 3 = 49 := ⟨by decide +kernel, rfl⟩
theorem d_Mo_laySample_49 : decode m_Mo_laySample.2.1 49 = .ok (.lconst 1, 1) ∧ 49 + 1 = 50 := ⟨by decide +kernel, rfl⟩
theorem d_Mo_laySample_50 : decode m_Mo_laySample.2.1 50 = .ok (.ladd, 1) ∧ 50 + 1 = 51 := ⟨by decide +kernel, rfl⟩
theorem d_Mo_laySample_51 : decode m_Mo_laySample.2.1 51 = .ok (.lstore_n 3, 1) ∧ 51 + 1 = 52 := ⟨by decide +kernel, rfl⟩
theorem d_Mo_laySample_52 : decode m_Mo_laySample.2.1 52 = .ok (.aload_n 0, 1) ∧ 52 + 1 = 53 := ⟨by decide +kernel, rfl⟩
theorem d_Mo_laySample_53 : decode m_Mo_laySample.2.1 53 = .ok (.iload_n 1, 1) ∧ 53 + 1 = 54 := ⟨by decide +kernel, rfl⟩
theorem d_Mo_laySample_54 : decode m_Mo_laySample.2.1 54 = .ok (.lload_n 3, 1) ∧ 54 + 1 = 55 := ⟨by decide +kernel, rfl⟩
theorem d_Mo_laySample_55 : decode m_Mo_laySample.2.1 55 = .ok (.lconst 0, 1) ∧ 55 + 1 = 56 := ⟨by decide +kernel, rfl⟩
theorem d_Mo_laySample_56 : decode m_Mo_laySample.2.1 56 = .ok (.lconst 0, 1) ∧ 56 + 1 = 57 := ⟨by decide +kernel, rfl⟩
theorem d_Mo_laySample_57 : decode m_Mo_laySample.2.1 57 = .ok (.lconst 1, 1) ∧ 57 + 1 = 58 := ⟨by decide +kernel, rfl⟩
theorem d_Mo_laySample_58 : decode m_Mo_laySample.2.1 58 = .ok (.invokevirtual 159, 3) ∧ 58 + 3 = 61 := ⟨by decide +kernel, rfl⟩
theorem d_Mo_laySample_61 : decode m_Mo_laySample.2.1 61 = .ok (.return_, 1) := by decide +kernel
theorem d_Mo_laySample_62 : decode m_Mo_laySample.2.1 62 = .ok (.lconst 0, 1) ∧ 62 + 1 = 63 := ⟨by decide +kernel, rfl⟩
theorem d_Mo_laySample_63 : decode m_Mo_laySample.2.1 63 = .ok (.lstore_n 3, 1) ∧ 63 + 1 = 64 := ⟨by decide +kernel, rfl⟩
theorem d_Mo_laySample_64 : decode m_Mo_laySample.2.1 64 = .ok (.lconst 0, 1) ∧ 64 + 1 = 65 := ⟨by decide +kernel, rfl⟩
theorem d_Mo_laySample_65 : decode m_Mo_laySample.2.1 65 = .ok (.lstore 5, 2) ∧ 65 + 2 = 67 := ⟨by decide +kernel, rfl⟩
theorem d_Mo_laySample_67 : decode m_Mo_laySample.2.1 67 = .ok (.iconst 1, 1) ∧ 67 + 1 = 68 := ⟨by decide +kernel, rfl⟩
theorem d_Mo_laySample_68 : decode m_Mo_laySample.2.1 68 = .ok (.istore 7, 2) ∧ 68 + 2 = 70 := ⟨by decide +kernel, rfl⟩
theorem d_Mo_laySample_70 : decode m_Mo_laySample.2.1 70 = .ok (.iload 7, 2) ∧ 70 + 2 = 72 := ⟨by decide +kernel, rfl⟩
theorem d_Mo_laySample_72 : decode m_Mo_laySample.2.1 72 = .ok (.ifCond .eq 40, 3) ∧ 72 + 3 = 75 ∧ (((72 : Nat) : Int) + (40) = ((112 : Nat) : Int)) := ⟨by decide +kernel, rfl, by decide⟩
theorem d_Mo_laySample_75 : decode m_Mo_laySample.2.1 75 = .ok (.lload_n 3, 1) ∧ 75 + 1 = 76 := ⟨by decide +kernel, rfl⟩
theorem d_Mo_laySample_76 : decode m_Mo_laySample.2.1 76 = .ok (.lconst 1, 1) ∧ 76 + 1 = 77 := ⟨by decide +kernel, rfl⟩
theorem d_Mo_laySample_77 : decode m_Mo_laySample.2.1 77 = .ok (.ladd, 1) ∧ 77 + 1 = 78 := ⟨by decide +kernel, rfl⟩
theorem d_Mo_laySample_78 : decode m_Mo_laySample.2.1 78 = .ok (.lstore_n 3, 1) ∧ 78 + 1 = 79 := ⟨by decide +kernel, rfl⟩
theorem d_Mo_laySample_79 : decode m_Mo_laySample.2.1 79 = .ok (.aload_n 0, 1) ∧ 79 + 1 = 80 := ⟨by decide +kernel, rfl⟩
theorem d_Mo_laySample_80 : decode m_Mo_laySample.2.1 80 = .ok (.iload_n 2, 1) ∧ 80 + 1 = 81 := ⟨by decide +kernel, rfl⟩
theorem d_Mo_laySample_81 : decode m_Mo_laySample.2.1 81 = .ok (.iconst 1, 1) ∧ 81 + 1 = 82 := ⟨by decide +kernel, rfl⟩
theorem d_Mo_laySample_82 : decode m_Mo_laySample.2.1 82 = .ok (.isub, 1) ∧ 82 + 1 = 83 := ⟨by decide +kernel, rfl⟩
theorem d_Mo_laySample_83 : decode m_Mo_laySample.2.1 83 = .ok (.lload_n 3, 1) ∧ 83 + 1 = 84 := ⟨by decide +kernel, rfl⟩
theorem d_Mo_laySample_84 : decode m_Mo_laySample.2.1 84 = .ok (.invokevirtual 180, 3) ∧ 84 + 3 = 87 := ⟨by decide +kernel, rfl⟩
theorem d_Mo_laySample_87 : decode m_Mo_laySample.2.1 87 = .ok (.lconst 1, 1) ∧ 87 + 1 = 88 := ⟨by decide +kernel, rfl⟩
theorem d_Mo_laySample_88 : decode m_Mo_laySample.2.1 88 = .ok (.ladd, 1) ∧ 88 + 1 = 89 := ⟨by decide +kernel, rfl⟩
theorem d_Mo_laySample_89 : decode m_Mo_laySample.2.1 89 = .ok (.lstore 5, 2) ∧ 89 + 2 = 91 := ⟨by decide +kernel, rfl⟩
theorem d_Mo_laySample_91 : decode m_Mo_laySample.2.1 91 = .ok (.aload_n 0, 1) ∧ 91 + 1 = 92 := ⟨by decide +kernel, rfl⟩
theorem d_Mo_laySample_92 : decode m_Mo_laySample.2.1 92 = .ok (.iload_n 2, 1) ∧ 92 + 1 = 93 := ⟨by decide +kernel, rfl⟩
theorem d_Mo_laySample_93 : decode m_Mo_laySample.2.1 93 = .ok (.lload 5, 2) ∧ 93 + 2 = 95 := ⟨by decide +kernel, rfl⟩
theorem d_Mo_laySample_95 : decode m_Mo_laySample.2.1 95 = .ok (.lload_n 3, 1) ∧ 95 + 1 = 96 := ⟨by decide +kernel, rfl⟩
theorem d_Mo_laySample_96 : decode m_Mo_laySample.2.1 96 = .ok (.invokevirtual 152, 3) ∧ 96 + 3 = 99 := ⟨by decide +kernel, rfl⟩
theorem d_Mo_laySample_99 : decode m_Mo_laySample.2.1 99 = .ok (.ifCond .gt 7, 3) ∧ 99 + 3 = 102 ∧ (((99 : Nat) : Int) + (7) = ((106 : Nat) : Int)) := ⟨by decide +kernel, rfl, by decide⟩
theorem d_Mo_laySample_102 : decode m_Mo_laySample.2.1 102 = .ok (.iconst 1, 1) ∧ 102 + 1 = 103 := ⟨by decide +kernel, rfl⟩
theorem d_Mo_laySample_103 : decode m_Mo_laySample.2.1 103 = .ok (.goto 4, 3) ∧ (((103 : Nat) : Int) + (4) = ((107 : Nat) : Int)) := ⟨by decide +kernel, by decide⟩
theorem d_Mo_laySample_106 : decode m_Mo_laySample.2.1 106 = .ok (.iconst 0, 1) ∧ 106 + 1 = 107 := ⟨by decide +kernel, rfl⟩
theorem d_Mo_laySample_107 : decode m_Mo_laySample.2.1 107 = .ok (.istore 7, 2) ∧ 107 + 2 = 109 := ⟨by decide +kernel, rfl⟩
theorem d_Mo_laySample_109 : decode m_Mo_laySample.2.1 109 = .ok (.goto (-39), 3) ∧ (((109 : Nat) : Int) + (-39) = ((70 : Nat) : Int)) := ⟨by decide +kernel, by decide⟩
theorem d_Mo_laySample_112 : decode m_Mo_laySample.2.1 112 = .ok (.aload_n 0, 1) ∧ 112 + 1 = 113 := ⟨by decide +kernel, rfl⟩
theorem d_Mo_laySample_113 : decode m_Mo_laySample.2.1 113 = .ok (.iload_n 1, 1) ∧ 113 + 1 = 114 := ⟨by decide +kernel, rfl⟩
theorem d_Mo_laySample_114 : decode m_Mo_laySample.2.1 114 = .ok (.lload 5, 2) ∧ 114 + 2 = 116 := ⟨by decide +kernel, rfl⟩
theorem d_Mo_laySample_116 : decode m_Mo_laySample.2.1 116 = .ok (.lconst 0, 1) ∧ 116 + 1 = 117 := ⟨by decide +kernel, rfl⟩
theorem d_Mo_laySample_117 : decode m_Mo_laySample.2.1 117 = .ok (.lconst 0, 1) ∧ 117 + 1 = 118 := ⟨by decide +kernel, rfl⟩
theorem d_Mo_laySample_118 : decode m_Mo_laySample.2.1 118 = .ok (.lload_n 3, 1) ∧ 118 + 1 = 119 := ⟨by decide +kernel, rfl⟩
theorem d_Mo_laySample_119 : decode m_Mo_laySample.2.1 119 = .ok (.invokevirtual 159, 3) ∧ 119 + 3 = 122 := ⟨by decide +kernel, rfl⟩
theorem d_Mo_laySample_122 : decode m_Mo_laySample.2.1 122 = .ok (.return_, 1) := by decide +kernel
theorem d_Mo_laySamples_0 : decode m_Mo_laySamples.2.1 0 = .ok (.aload_n 0, 1) ∧ 0 + 1 = 1 := ⟨by decide +kernel, rfl⟩
theorem d_Mo_laySamples_1 : decode m_Mo_laySamples.2.1 1 = .ok (.iconst 2, 1) ∧ 1 + 1 = 2 := ⟨by decide +kernel, rfl⟩
theorem d_Mo_laySamples_2 : decode m_Mo_laySamples.2.1 2 = .ok (.aload_n 0, 1) ∧ 2 + 1 = 3 := ⟨by decide +kernel, rfl⟩
theorem d_Mo_laySamples_3 : decode m_Mo_laySamples.2.1 3 = .ok (.getfield 156, 3) ∧ 3 + 3 = 6 := ⟨by decide +kernel, rfl⟩
theorem d_Mo_laySamples_6 : decode m_Mo_laySamples.2.1 6 = .ok (.imul, 1) ∧ 6 + 1 = 7 := ⟨by decide +kernel, rfl⟩
theorem d_Mo_laySamples_7 : decode m_Mo_laySamples.2.1 7 = .ok (.iconst 1, 1) ∧ 7 + 1 = 8 := ⟨by decide +kernel, rfl⟩
theorem d_Mo_laySamples_8 : decode m_Mo_laySamples.2.1 8 = .ok (.iadd, 1) ∧ 8 + 1 = 9 := ⟨by decide +kernel, rfl⟩
theorem d_Mo_laySamples_9 : decode m_Mo_laySamples.2.1 9 = .ok (.putfield 184, 3) ∧ 9 + 3 = 12 := ⟨by decide +kernel, rfl⟩
theorem d_Mo_laySamples_12 : decode m_Mo_laySamples.2.1 12 = .ok (.iconst 0, 1) ∧ 12 + 1 = 13 := ⟨by decide +kernel, rfl⟩
theorem d_Mo_laySamples_13 : decode m_Mo_laySamples.2.1 13 = .ok (.istore_n 1, 1) ∧ 13 + 1 = 14 := ⟨by decide +kernel, rfl⟩
theorem d_Mo_laySamples_14 : decode m_Mo_laySamples.2.1 14 = .ok (.iload_n 1, 1) ∧ 14 + 1 = 15 := ⟨by decide +kernel, rfl⟩
theorem d_Mo_laySamples_15 : decode m_Mo_laySamples.2.1 15 = .ok (.aload_n 0, 1) ∧ 15 + 1 = 16 := ⟨by decide +kernel, rfl⟩
theorem d_Mo_laySamples_16 : decode m_Mo_laySamples.2.1 16 = .ok (.getfield 184, 3) ∧ 16 + 3 = 19 := ⟨by decide +kernel, rfl⟩
theorem d_Mo_laySamples_19 : decode m_Mo_laySamples.2.1 19 = .ok (.if_icmp .ge 70, 3) ∧ 19 + 3 = 22 ∧ (((19 : Nat) : Int) + (70) = ((89 : Nat) : Int)) := ⟨by decide +kernel, rfl, by decide⟩
theorem d_Mo_laySamples_22 : decode m_Mo_laySamples.2.1 22 = .ok (.iload_n 1, 1) ∧ 22 + 1 = 23 := ⟨by decide +kernel, rfl⟩
theorem d_Mo_laySamples_23 : decode m_Mo_laySamples.2.1 23 = .ok (.iconst 2, 1) ∧ 23 + 1 = 24 := ⟨by decide +kernel, rfl⟩
theorem d_Mo_laySamples_24 : decode m_Mo_laySamples.2.1 24 = .ok (.irem, 1) ∧ 24 + 1 = 25 := ⟨by decide +kernel, rfl⟩
theorem d_Mo_laySamples_25 : decode m_Mo_laySamples.2.1 25 = .ok (.iconst 1, 1) ∧ 25 + 1 = 26 := ⟨by decide +kernel, rfl⟩
theorem d_Mo_laySamples_26 : decode m_Mo_laySamples.2.1 26 = .ok (.if_icmp .ne 46, 3) ∧ 26 + 3 = 29 ∧ (((26 : Nat) : Int) + (46) = ((72 : Nat) : Int)) := ⟨by decide +kernel, rfl, by decide⟩
theorem d_Mo_laySamples_29 : decode m_Mo_laySamples.2.1 29 = .ok (.aload_n 0, 1) ∧ 29 + 1 = 30 := ⟨by decide +kernel, rfl⟩
theorem d_Mo_laySamples_30 : decode m_Mo_laySamples.2.1 30 = .ok (.bipush 20, 2) ∧ 30 + 2 = 32 ∧ (Int8.ofInt 20).toInt32 = Int32.ofInt 20 := ⟨by decide +kernel, rfl, by decide +kernel⟩
theorem d_Mo_laySamples_32 : decode m_Mo_laySamples.2.1 32 = .ok (.iload_n 1, 1) ∧ 32 + 1 = 33 := ⟨by decide +kernel, rfl⟩
theorem d_Mo_laySamples_33 : decode m_Mo_laySamples.2.1 33 = .ok (.iadd, 1) ∧ 33 + 1 = 34 := ⟨by decide +kernel, rfl⟩
theorem d_Mo_laySamples_34 : decode m_Mo_laySamples.2.1 34 = .ok (.aload_n 0, 1) ∧ 34 + 1 = 35 := ⟨by decide +kernel, rfl⟩
theorem d_Mo_laySamples_35 : decode m_Mo_laySamples.2.1 35 = .ok (.getfield 25, 3) ∧ 35 + 3 = 38 := ⟨by decide +kernel, rfl⟩
theorem d_Mo_laySamples_38 : decode m_Mo_laySamples.2.1 38 = .ok (.iload_n 1, 1) ∧ 38 + 1 = 39 := ⟨by decide +kernel, rfl⟩
theorem d_Mo_laySamples_39 : decode m_Mo_laySamples.2.1 39 = .ok (.iconst 2, 1) ∧ 39 + 1 = 40 := ⟨by decide +kernel, rfl⟩
theorem d_Mo_laySamples_40 : decode m_Mo_laySamples.2.1 40 = .ok (.idiv, 1) ∧ 40 + 1 = 41 := ⟨by decide +kernel, rfl⟩
theorem d_Mo_laySamples_41 : decode m_Mo_laySamples.2.1 41 = .ok (.laload, 1) ∧ 41 + 1 = 42 := ⟨by decide +kernel, rfl⟩
theorem d_Mo_laySamples_42 : decode m_Mo_laySamples.2.1 42 = .ok (.aload_n 0, 1) ∧ 42 + 1 = 43 := ⟨by decide +kernel, rfl⟩
theorem d_Mo_laySamples_43 : decode m_Mo_laySamples.2.1 43 = .ok (.getfield 29, 3) ∧ 43 + 3 = 46 := ⟨by decide +kernel, rfl⟩
theorem d_Mo_laySamples_46 : decode m_Mo_laySamples.2.1 46 = .ok (.iload_n 1, 1) ∧ 46 + 1 = 47 := ⟨by decide +kernel, rfl⟩
theorem d_Mo_laySamples_47 : decode m_Mo_laySamples.2.1 47 = .ok (.iconst 2, 1) ∧ 47 + 1 = 48 := ⟨by decide +kernel, rfl⟩
theorem d_Mo_laySamples_48 : decode m_Mo_laySamples.2.1 48 = .ok (.idiv, 1) ∧ 48 + 1 = 49 := ⟨by decide +kernel, rfl⟩
theorem d_Mo_laySamples_49 : decode m_Mo_laySamples.2.1 49 = .ok (.laload, 1) ∧ 49 + 1 = 50 := ⟨by decide +kernel, rfl⟩
theorem d_Mo_laySamples_50 : decode m_Mo_laySamples.2.1 50 = .ok (.aload_n 0, 1) ∧ 50 + 1 = 51 := ⟨by decide +kernel, rfl⟩
theorem d_Mo_laySamples_51 : decode m_Mo_laySamples.2.1 51 = .ok (.getfield 32, 3) ∧ 51 + 3 = 54 := ⟨by decide +kernel, rfl⟩
theorem d_Mo_laySamples_54 : decode m_Mo_laySamples.2.1 54 = .ok (.iload_n 1, 1) ∧ 54 + 1 = 55 := ⟨by decide +kernel, rfl⟩
theorem d_Mo_laySamples_55 : decode m_Mo_laySamples.2.1 55 = .ok (.iconst 2, 1) ∧ 55 + 1 = 56 := ⟨by decide +kernel, rfl⟩
theorem d_Mo_laySamples_56 : decode m_Mo_laySamples.2.1 56 = .ok (.idiv, 1) ∧ 56 + 1 = 57 := ⟨by decide +kernel, rfl⟩
theorem d_Mo_laySamples_57 : decode m_Mo_laySamples.2.1 57 = .ok (.laload, 1) ∧ 57 + 1 = 58 := ⟨by decide +kernel, rfl⟩
theorem d_Mo_laySamples_58 : decode m_Mo_laySamples.2.1 58 = .ok (.aload_n 0, 1) ∧ 58 + 1 = 59 := ⟨by decide +kernel, rfl⟩
theorem d_Mo_laySamples_59 : decode m_Mo_laySamples.2.1 59 = .ok (.getfield 35, 3) ∧ 59 + 3 = 62 := ⟨by decide +kernel, rfl⟩
theorem d_Mo_laySamples_62 : decode m_Mo_laySamples.2.1 62 = .ok (.iload_n 1, 1) ∧ 62 + 1 = 63 := ⟨by decide +kernel, rfl⟩
theorem d_Mo_laySamples_63 : decode m_Mo_laySamples.2.1 63 = .ok (.iconst 2, 1) ∧ 63 + 1 = 64 := ⟨by decide +kernel, rfl⟩
theorem d_Mo_laySamples_64 : decode m_Mo_laySamples.2.1 64 = .ok (.idiv, 1) ∧ 64 + 1 = 65 := ⟨by decide +kernel, rfl⟩
theorem d_Mo_laySamples_65 : decode m_Mo_laySamples.2.1 65 = .ok (.laload, 1) ∧ 65 + 1 = 66 := ⟨by decide +kernel, rfl⟩
theorem d_Mo_laySamples_66 : decode m_Mo_laySamples.2.1 66 = .ok (.invokevirtual 159, 3) ∧ 66 + 3 = 69 := ⟨by decide +kernel, rfl⟩
theorem d_Mo_laySamples_69 : decode m_Mo_laySamples.2.1 69 = .ok (.goto 14, 3) ∧ (((69 : Nat) : Int) + (14) = ((83 : Nat) : Int)) := ⟨by decide +kernel, by decide⟩
theorem d_Mo_laySamples_72 : decode m_Mo_laySamples.2.1 72 = .ok (.aload_n 0, 1) ∧ 72 + 1 = 73 := ⟨by decide +kernel, rfl⟩
theorem d_Mo_laySamples_73 : decode m_Mo_laySamples.2.1 73 = .ok (.bipush 20, 2) ∧ 73 + 2 = 75 ∧ (Int8.ofInt 20).toInt32 = Int32.ofInt 20 := ⟨by decide +kernel, rfl, by decide +kernel⟩
theorem d_Mo_laySamples_75 : decode m_Mo_laySamples.2.1 75 = .ok (.iload_n 1, 1) ∧ 75 + 1 = 76 := ⟨by decide +kernel, rfl⟩
theorem d_Mo_laySamples_76 : decode m_Mo_laySamples.2.1 76 = .ok (.iadd, 1) ∧ 76 + 1 = 77 := ⟨by decide +kernel, rfl⟩
theorem d_Mo_laySamples_77 : decode m_Mo_laySamples.2.1 77 = .ok (.iload_n 1, 1) ∧ 77 + 1 = 78 := ⟨by decide +kernel, rfl⟩
theorem d_Mo_laySamples_78 : decode m_Mo_laySamples.2.1 78 = .ok (.iconst 2, 1) ∧ 78 + 1 = 79 := ⟨by decide +kernel, rfl⟩
theorem d_Mo_laySamples_79 : decode m_Mo_laySamples.2.1 79 = .ok (.idiv, 1) ∧ 79 + 1 = 80 := ⟨by decide +kernel, rfl⟩
theorem d_Mo_laySamples_80 : decode m_Mo_laySamples.2.1 80 = .ok (.invokevirtual 187, 3) ∧ 80 + 3 = 83 := ⟨by decide +kernel, rfl⟩
theorem d_Mo_laySamples_83 : decode m_Mo_laySamples.2.1 83 = .ok (.iinc 1 1, 3) ∧ 83 + 3 = 86 := ⟨by decide +kernel, rfl⟩
theorem d_Mo_laySamples_86 : decode m_Mo_laySamples.2.1 86 = .ok (.goto (-72), 3) ∧ (((86 : Nat) : Int) + (-72) = ((14 : Nat) : Int)) := ⟨by decide +kernel, by decide⟩
theorem d_Mo_laySamples_89 : decode m_Mo_laySamples.2.1 89 = .ok (.return_, 1) := by decide +kernel
theorem d_Mo_layRanks_0 : decode m_Mo_layRanks.2.1 0 = .ok (.iconst 0, 1) ∧ 0 + 1 = 1 := ⟨by decide +kernel, rfl⟩
theorem d_Mo_layRanks_1 : decode m_Mo_layRanks.2.1 1 = .ok (.istore_n 2, 1) ∧ 1 + 1 = 2 := ⟨by decide +kernel, rfl⟩
theorem d_Mo_layRanks_2 : decode m_Mo_layRanks.2.1 2 = .ok (.iload_n 2, 1) ∧ 2 + 1 = 3 := ⟨by decide +kernel, rfl⟩
theorem d_Mo_layRanks_3 : decode m_Mo_layRanks.2.1 3 = .ok (.aload_n 0, 1) ∧ 3 + 1 = 4 := ⟨by decide +kernel, rfl⟩
theorem d_Mo_layRanks_4 : decode m_Mo_layRanks.2.1 4 = .ok (.getfield 184, 3) ∧ 4 + 3 = 7 := ⟨by decide +kernel, rfl⟩
theorem d_Mo_layRanks_7 : decode m_Mo_layRanks.2.1 7 = .ok (.if_icmp .ge 220, 3) ∧ 7 + 3 = 10 ∧ (((7 : Nat) : Int) + (220) = ((227 : Nat) : Int)) := ⟨by decide +kernel, rfl, by decide⟩
theorem d_Mo_layRanks_10 : decode m_Mo_layRanks.2.1 10 = .ok (.iconst 0, 1) ∧ 10 + 1 = 11 := ⟨by decide +kernel, rfl⟩
theorem d_Mo_layRanks_11 : decode m_Mo_layRanks.2.1 11 = .ok (.istore_n 3, 1) ∧ 11 + 1 = 12 := ⟨by decide +kernel, rfl⟩
theorem d_Mo_layRanks_12 : decode m_Mo_layRanks.2.1 12 = .ok (.iconst 0, 1) ∧ 12 + 1 = 13 := ⟨by decide +kernel, rfl⟩
theorem d_Mo_layRanks_13 : decode m_Mo_layRanks.2.1 13 = .ok (.istore 4, 2) ∧ 13 + 2 = 15 := ⟨by decide +kernel, rfl⟩
theorem d_Mo_layRanks_15 : decode m_Mo_layRanks.2.1 15 = .ok (.iload 4, 2) ∧ 15 + 2 = 17 := ⟨by decide +kernel, rfl⟩
theorem d_Mo_layRanks_17 : decode m_Mo_layRanks.2.1 17 = .ok (.aload_n 0, 1) ∧ 17 + 1 = 18 := ⟨by decide +kernel, rfl⟩
theorem d_Mo_layRanks_18 : decode m_Mo_layRanks.2.1 18 = .ok (.getfield 103, 3) ∧ 18 + 3 = 21 := ⟨by decide +kernel, rfl⟩
theorem d_Mo_layRanks_21 : decode m_Mo_layRanks.2.1 21 = .ok (.if_icmp .ge 193, 3) ∧ 21 + 3 = 24 ∧ (((21 : Nat) : Int) + (193) = ((214 : Nat) : Int)) := ⟨by decide +kernel, rfl, by decide⟩
theorem d_Mo_layRanks_24 : decode m_Mo_layRanks.2.1 24 = .ok (.aload_n 0, 1) ∧ 24 + 1 = 25 := ⟨by decide +kernel, rfl⟩
theorem d_Mo_layRanks_25 : decode m_Mo_layRanks.2.1 25 = .ok (.getfield 38, 3) ∧ 25 + 3 = 28 := ⟨by decide +kernel, rfl⟩
theorem d_Mo_layRanks_28 : decode m_Mo_layRanks.2.1 28 = .ok (.iconst 4, 1) ∧ 28 + 1 = 29 := ⟨by decide +kernel, rfl⟩
theorem d_Mo_layRanks_29 : decode m_Mo_layRanks.2.1 29 = .ok (.iload_n 2, 1) ∧ 29 + 1 = 30 := ⟨by decide +kernel, rfl⟩
theorem d_Mo_layRanks_30 : decode m_Mo_layRanks.2.1 30 = .ok (.imul, 1) ∧ 30 + 1 = 31 := ⟨by decide +kernel, rfl⟩
theorem d_Mo_layRanks_31 : decode m_Mo_layRanks.2.1 31 = .ok (.iload 4, 2) ∧ 31 + 2 = 33 := ⟨by decide +kernel, rfl⟩
theorem d_Mo_layRanks_33 : decode m_Mo_layRanks.2.1 33 = .ok (.iadd, 1) ∧ 33 + 1 = 34 := ⟨by decide +kernel, rfl⟩
theorem d_Mo_layRanks_34 : decode m_Mo_layRanks.2.1 34 = .ok (.iconst 0, 1) ∧ 34 + 1 = 35 := ⟨by decide +kernel, rfl⟩
theorem d_Mo_layRanks_35 : decode m_Mo_layRanks.2.1 35 = .ok (.iastore, 1) ∧ 35 + 1 = 36 := ⟨by decide +kernel, rfl⟩
theorem d_Mo_layRanks_36 : decode m_Mo_layRanks.2.1 36 = .ok (.iload 4, 2) ∧ 36 + 2 = 38 := ⟨by decide +kernel, rfl⟩
theorem d_Mo_layRanks_38 : decode m_Mo_layRanks.2.1 38 = .ok (.iload_n 1, 1) ∧ 38 + 1 = 39 := ⟨by decide +kernel, rfl⟩
theorem d_Mo_layRanks_39 : decode m_Mo_layRanks.2.1 39 = .ok (.if_icmp .eq 16, 3) ∧ 39 + 3 = 42 ∧ (((39 : Nat) : Int) + (16) = ((55 : Nat) : Int)) := ⟨by decide +kernel, rfl, by decide⟩
theorem d_Mo_layRanks_42 : decode m_Mo_layRanks.2.1 42 = .ok (.aload_n 0, 1) ∧ 42 + 1 = 43 := ⟨by decide +kernel, rfl⟩
theorem d_Mo_layRanks_43 : decode m_Mo_layRanks.2.1 43 = .ok (.iload 4, 2) ∧ 43 + 2 = 45 := ⟨by decide +kernel, rfl⟩
theorem d_Mo_layRanks_45 : decode m_Mo_layRanks.2.1 45 = .ok (.invokevirtual 173, 3) ∧ 45 + 3 = 48 := ⟨by decide +kernel, rfl⟩
theorem d_Mo_layRanks_48 : decode m_Mo_layRanks.2.1 48 = .ok (.ifCond .ne 7, 3) ∧ 48 + 3 = 51 ∧ (((48 : Nat) : Int) + (7) = ((55 : Nat) : Int)) := ⟨by decide +kernel, rfl, by decide⟩
theorem d_Mo_layRanks_51 : decode m_Mo_layRanks.2.1 51 = .ok (.iconst 1, 1) ∧ 51 + 1 = 52 := ⟨by decide +kernel, rfl⟩
theorem d_Mo_layRanks_52 : decode m_Mo_layRanks.2.1 52 = .ok (.goto 4, 3) ∧ (((52 : Nat) : Int) + (4) = ((56 : Nat) : Int)) := ⟨by decide +kernel, by decide⟩
theorem d_Mo_layRanks_55 : decode m_Mo_layRanks.2.1 55 = .ok (.iconst 0, 1) ∧ 55 + 1 = 56 := ⟨by decide +kernel, rfl⟩
theorem d_Mo_layRanks_56 : decode m_Mo_layRanks.2.1 56 = .ok (.istore 5, 2) ∧ 56 + 2 = 58 := ⟨by decide +kernel, rfl⟩
theorem d_Mo_layRanks_58 : decode m_Mo_layRanks.2.1 58 = .ok (.iconst 0, 1) ∧ 58 + 1 = 59 := ⟨by decide +kernel, rfl⟩
theorem d_Mo_layRanks_59 : decode m_Mo_layRanks.2.1 59 = .ok (.istore 6, 2) ∧ 59 + 2 = 61 := ⟨by decide +kernel, rfl⟩
theorem d_Mo_layRanks_61 : decode m_Mo_layRanks.2.1 61 = .ok (.iload 6, 2) ∧ 61 + 2 = 63 := ⟨by decide +kernel, rfl⟩
theorem d_Mo_layRanks_63 : decode m_Mo_layRanks.2.1 63 = .ok (.aload_n 0, 1) ∧ 63 + 1 = 64 := ⟨by decide +kernel, rfl⟩
theorem d_Mo_layRanks_64 : decode m_Mo_layRanks.2.1 64 = .ok (.getfield 103, 3) ∧ 64 + 3 = 67 := ⟨by decide +kernel, rfl⟩
theorem d_Mo_layRanks_67 : decode m_Mo_layRanks.2.1 67 = .ok (.if_icmp .ge 128, 3) ∧ 67 + 3 = 70 ∧ (((67 : Nat) : Int) + (128) = ((195 : Nat) : Int)) := ⟨by decide +kernel, rfl, by decide⟩
theorem d_Mo_layRanks_70 : decode m_Mo_layRanks.2.1 70 = .ok (.iload 6, 2) ∧ 70 + 2 = 72 := ⟨by decide +kernel, rfl⟩
theorem d_Mo_layRanks_72 : decode m_Mo_layRanks.2.1 72 = .ok (.iload_n 1, 1) ∧ 72 + 1 = 73 := ⟨by decide +kernel, rfl⟩
theorem d_Mo_layRanks_73 : decode m_Mo_layRanks.2.1 73 = .ok (.if_icmp .eq 31, 3) ∧ 73 + 3 = 76 ∧ (((73 : Nat) : Int) + (31) = ((104 : Nat) : Int)) := ⟨by decide +kernel, rfl, by decide⟩
theorem d_Mo_layRanks_76 : decode m_Mo_layRanks.2.1 76 = .ok (.aload_n 0, 1) ∧ 76 + 1 = 77 := ⟨by decide +kernel, rfl⟩
theorem d_Mo_layRanks_77 : decode m_Mo_layRanks.2.1 77 = .ok (.iload 6, 2) ∧ 77 + 2 = 79 := ⟨by decide +kernel, rfl⟩
theorem d_Mo_layRanks_79 : decode m_Mo_layRanks.2.1 79 = .ok (.invokevirtual 173, 3) ∧ 79 + 3 = 82 := ⟨by decide +kernel, rfl⟩
theorem d_Mo_layRanks_82 : decode m_Mo_layRanks.2.1 82 = .ok (.ifCond .ne 22, 3) ∧ 82 + 3 = 85 ∧ (((82 : Nat) : Int) + (22) = ((104 : Nat) : Int)) := ⟨by decide +kernel, rfl, by decide⟩
theorem d_Mo_layRanks_85 : decode m_Mo_layRanks.2.1 85 = .ok (.iload 4, 2) ∧ 85 + 2 = 87 := ⟨by decide +kernel, rfl⟩
theorem d_Mo_layRanks_87 : decode m_Mo_layRanks.2.1 87 = .ok (.iload_n 1, 1) ∧ 87 + 1 = 88 := ⟨by decide +kernel, rfl⟩
theorem d_Mo_layRanks_88 : decode m_Mo_layRanks.2.1 88 = .ok (.if_icmp .eq 16, 3) ∧ 88 + 3 = 91 ∧ (((88 : Nat) : Int) + (16) = ((104 : Nat) : Int)) := ⟨by decide +kernel, rfl, by decide⟩
theorem d_Mo_layRanks_91 : decode m_Mo_layRanks.2.1 91 = .ok (.aload_n 0, 1) ∧ 91 + 1 = 92 := ⟨by decide +kernel, rfl⟩
theorem d_Mo_layRanks_92 : decode m_Mo_layRanks.2.1 92 = .ok (.iload 4, 2) ∧ 92 + 2 = 94 := ⟨by decide +kernel, rfl⟩
theorem d_Mo_layRanks_94 : decode m_Mo_layRanks.2.1 94 = .ok (.invokevirtual 173, 3) ∧ 94 + 3 = 97 := ⟨by decide +kernel, rfl⟩
theorem d_Mo_layRanks_97 : decode m_Mo_layRanks.2.1 97 = .ok (.ifCond .ne 7, 3) ∧ 97 + 3 = 100 ∧ (((97 : Nat) : Int) + (7) = ((104 : Nat) : Int)) := ⟨by decide +kernel, rfl, by decide⟩
theorem d_Mo_layRanks_100 : decode m_Mo_layRanks.2.1 100 = .ok (.iconst 1, 1) ∧ 100 + 1 = 101 := ⟨by decide +kernel, rfl⟩
theorem d_Mo_layRanks_101 : decode m_Mo_layRanks.2.1 101 = .ok (.goto 4, 3) ∧ (((101 : Nat) : Int) + (4) = ((105 : Nat) : Int)) := ⟨by decide +kernel, by decide⟩
theorem d_Mo_layRanks_104 : decode m_Mo_layRanks.2.1 104 = .ok (.iconst 0, 1) ∧ 104 + 1 = 105 := ⟨by decide +kernel, rfl⟩
theorem d_Mo_layRanks_105 : decode m_Mo_layRanks.2.1 105 = .ok (.istore 7, 2) ∧ 105 + 2 = 107 := ⟨by decide +kernel, rfl⟩
theorem d_Mo_layRanks_107 : decode m_Mo_layRanks.2.1 107 = .ok (.iload 7, 2) ∧ 107 + 2 = 109 := ⟨by decide +kernel, rfl⟩
theorem d_Mo_layRanks_109 : decode m_Mo_layRanks.2.1 109 = .ok (.ifCond .eq 18, 3) ∧ 109 + 3 = 112 ∧ (((109 : Nat) : Int) + (18) = ((127 : Nat) : Int)) := ⟨by decide +kernel, rfl, by decide⟩
theorem d_Mo_layRanks_112 : decode m_Mo_layRanks.2.1 112 = .ok (.aload_n 0, 1) ∧ 112 + 1 = 113 := ⟨by decide +kernel, rfl⟩
theorem d_Mo_layRanks_113 : decode m_Mo_layRanks.2.1 113 = .ok (.iload 6, 2) ∧ 113 + 2 = 115 := ⟨by decide +kernel, rfl⟩
theorem d_Mo_layRanks_115 : decode m_Mo_layRanks.2.1 115 = .ok (.iload 4, 2) ∧ 115 + 2 = 117 := ⟨by decide +kernel, rfl⟩
theorem d_Mo_layRanks_117 : decode m_Mo_layRanks.2.1 117 = .ok (.bipush 20, 2) ∧ 117 + 2 = 119 ∧ (Int8.ofInt 20).toInt32 = Int32.ofInt 20 := ⟨by decide +kernel, rfl, by decide +kernel⟩
theorem d_Mo_layRanks_119 : decode m_Mo_layRanks.2.1 119 = .ok (.iload_n 2, 1) ∧ 119 + 1 = 120 := ⟨by decide +kernel, rfl⟩
theorem d_Mo_layRanks_120 : decode m_Mo_layRanks.2.1 120 = .ok (.iadd, 1) ∧ 120 + 1 = 121 := ⟨by decide +kernel, rfl⟩
theorem d_Mo_layRanks_121 : decode m_Mo_layRanks.2.1 121 = .ok (.invokevirtual 190, 3) ∧ 121 + 3 = 124 := ⟨by decide +kernel, rfl⟩
theorem d_Mo_layRanks_124 : decode m_Mo_layRanks.2.1 124 = .ok (.goto 4, 3) ∧ (((124 : Nat) : Int) + (4) = ((128 : Nat) : Int)) := ⟨by decide +kernel, by decide⟩
theorem d_Mo_layRanks_127 : decode m_Mo_layRanks.2.1 127 = .ok (.iconst 1, 1) ∧ 127 + 1 = 128 := ⟨by decide +kernel, rfl⟩
theorem d_Mo_layRanks_128 : decode m_Mo_layRanks.2.1 128 = .ok (.istore 8, 2) ∧ 128 + 2 = 130 := ⟨by decide +kernel, rfl⟩
theorem d_Mo_layRanks_130 : decode m_Mo_layRanks.2.1 130 = .ok (.aload_n 0, 1) ∧ 130 + 1 = 131 := ⟨by decide +kernel, rfl⟩
theorem d_Mo_layRanks_131 : decode m_Mo_layRanks.2.1 131 = .ok (.getfield 38, 3) ∧ 131 + 3 = 134 := ⟨by decide +kernel, rfl⟩
theorem d_Mo_layRanks_134 : decode m_Mo_layRanks.2.1 134 = .ok (.iconst 4, 1) ∧ 134 + 1 = 135 := ⟨by decide +kernel, rfl⟩
theorem d_Mo_layRanks_135 : decode m_Mo_layRanks.2.1 135 = .ok (.iload_n 2, 1) ∧ 135 + 1 = 136 := ⟨by decide +kernel, rfl⟩
theorem d_Mo_layRanks_136 : decode m_Mo_layRanks.2.1 136 = .ok (.imul, 1) ∧ 136 + 1 = 137 := ⟨by decide +kernel, rfl⟩
theorem d_Mo_layRanks_137 : decode m_Mo_layRanks.2.1 137 = .ok (.iload 4, 2) ∧ 137 + 2 = 139 := ⟨by decide +kernel, rfl⟩
theorem d_Mo_layRanks_139 : decode m_Mo_layRanks.2.1 139 = .ok (.iadd, 1) ∧ 139 + 1 = 140 := ⟨by decide +kernel, rfl⟩
theorem d_Mo_layRanks_140 : decode m_Mo_layRanks.2.1 140 = .ok (.dup2, 1) ∧ 140 + 1 = 141 := ⟨by decide +kernel, rfl⟩
theorem d_Mo_layRanks_141 : decode m_Mo_layRanks.2.1 141 = .ok (.iaload, 1) ∧ 141 + 1 = 142 := ⟨by decide +kernel, rfl⟩
theorem d_Mo_layRanks_142 : decode m_Mo_layRanks.2.1 142 = .ok (.iload 8, 2) ∧ 142 + 2 = 144 := ⟨by decide +kernel, rfl⟩
theorem d_Mo_layRanks_144 : decode m_Mo_layRanks.2.1 144 = .ok (.ifCond .ge 18, 3) ∧ 144 + 3 = 147 ∧ (((144 : Nat) : Int) + (18) = ((162 : Nat) : Int)) := ⟨by decide +kernel, rfl, by decide⟩
theorem d_Mo_layRanks_147 : decode m_Mo_layRanks.2.1 147 = .ok (.aload_n 0, 1) ∧ 147 + 1 = 148 := ⟨by decide +kernel, rfl⟩
theorem d_Mo_layRanks_148 : decode m_Mo_layRanks.2.1 148 = .ok (.iload 6, 2) ∧ 148 + 2 = 150 := ⟨by decide +kernel, rfl⟩
theorem d_Mo_layRanks_150 : decode m_Mo_layRanks.2.1 150 = .ok (.iload_n 2, 1) ∧ 150 + 1 = 151 := ⟨by decide +kernel, rfl⟩
theorem d_Mo_layRanks_151 : decode m_Mo_layRanks.2.1 151 = .ok (.iload_n 1, 1) ∧ 151 + 1 = 152 := ⟨by decide +kernel, rfl⟩
theorem d_Mo_layRanks_152 : decode m_Mo_layRanks.2.1 152 = .ok (.invokevirtual 194, 3) ∧ 152 + 3 = 155 := ⟨by decide +kernel, rfl⟩
theorem d_Mo_layRanks_155 : decode m_Mo_layRanks.2.1 155 = .ok (.ifCond .eq 7, 3) ∧ 155 + 3 = 158 ∧ (((155 : Nat) : Int) + (7) = ((162 : Nat) : Int)) := ⟨by decide +kernel, rfl, by decide⟩
theorem d_Mo_layRanks_158 : decode m_Mo_layRanks.2.1 158 = .ok (.iconst 1, 1) ∧ 158 + 1 = 159 := ⟨by decide +kernel, rfl⟩
theorem d_Mo_layRanks_159 : decode m_Mo_layRanks.2.1 159 = .ok (.goto 4, 3) ∧ (((159 : Nat) : Int) + (4) = ((163 : Nat) : Int)) := ⟨by decide +kernel, by decide⟩
theorem d_Mo_layRanks_162 : decode m_Mo_layRanks.2.1 162 = .ok (.iconst 0, 1) ∧ 162 + 1 = 163 := ⟨by decide +kernel, rfl⟩
theorem d_Mo_layRanks_163 : decode m_Mo_layRanks.2.1 163 = .ok (.iadd, 1) ∧ 163 + 1 = 164 := ⟨by decide +kernel, rfl⟩
theorem d_Mo_layRanks_164 : decode m_Mo_layRanks.2.1 164 = .ok (.iastore, 1) ∧ 164 + 1 = 165 := ⟨by decide +kernel, rfl⟩
theorem d_Mo_layRanks_165 : decode m_Mo_layRanks.2.1 165 = .ok (.iload 5, 2) ∧ 165 + 2 = 167 := ⟨by decide +kernel, rfl⟩
theorem d_Mo_layRanks_167 : decode m_Mo_layRanks.2.1 167 = .ok (.ifCond .eq 19, 3) ∧ 167 + 3 = 170 ∧ (((167 : Nat) : Int) + (19) = ((186 : Nat) : Int)) := ⟨by decide +kernel, rfl, by decide⟩
theorem d_Mo_layRanks_170 : decode m_Mo_layRanks.2.1 170 = .ok (.iload 8, 2) ∧ 170 + 2 = 172 := ⟨by decide +kernel, rfl⟩
theorem d_Mo_layRanks_172 : decode m_Mo_layRanks.2.1 172 = .ok (.ifCond .ne 10, 3) ∧ 172 + 3 = 175 ∧ (((172 : Nat) : Int) + (10) = ((182 : Nat) : Int)) := ⟨by decide +kernel, rfl, by decide⟩
theorem d_Mo_layRanks_175 : decode m_Mo_layRanks.2.1 175 = .ok (.iload 6, 2) ∧ 175 + 2 = 177 := ⟨by decide +kernel, rfl⟩
theorem d_Mo_layRanks_177 : decode m_Mo_layRanks.2.1 177 = .ok (.iload 4, 2) ∧ 177 + 2 = 179 := ⟨by decide +kernel, rfl⟩
theorem d_Mo_layRanks_179 : decode m_Mo_layRanks.2.1 179 = .ok (.if_icmp .lt 7, 3) ∧ 179 + 3 = 182 ∧ (((179 : Nat) : Int) + (7) = ((186 : Nat) : Int)) := ⟨by decide +kernel, rfl, by decide⟩
theorem d_Mo_layRanks_182 : decode m_Mo_layRanks.2.1 182 = .ok (.iconst 1, 1) ∧ 182 + 1 = 183 := ⟨by decide +kernel, rfl⟩
theorem d_Mo_layRanks_183 : decode m_Mo_layRanks.2.1 183 = .ok (.goto 4, 3) ∧ (((183 : Nat) : Int) + (4) = ((187 : Nat) : Int)) := ⟨by decide +kernel, by decide⟩
theorem d_Mo_layRanks_186 : decode m_Mo_layRanks.2.1 186 = .ok (.iconst 0, 1) ∧ 186 + 1 = 187 := ⟨by decide +kernel, rfl⟩
theorem d_Mo_layRanks_187 : decode m_Mo_layRanks.2.1 187 = .ok (.istore 5, 2) ∧ 187 + 2 = 189 := ⟨by decide +kernel, rfl⟩
theorem d_Mo_layRanks_189 : decode m_Mo_layRanks.2.1 189 = .ok (.iinc 6 1, 3) ∧ 189 + 3 = 192 := ⟨by decide +kernel, rfl⟩
theorem d_Mo_layRanks_192 : decode m_Mo_layRanks.2.1 192 = .ok (.goto (-131), 3) ∧ (((192 : Nat) : Int) + (-131) = ((61 : Nat) : Int)) := ⟨by decide +kernel, by decide⟩
theorem d_Mo_layRanks_195 : decode m_Mo_layRanks.2.1 195 = .ok (.iload_n 3, 1) ∧ 195 + 1 = 196 := ⟨by decide +kernel, rfl⟩
theorem d_Mo_layRanks_196 : decode m_Mo_layRanks.2.1 196 = .ok (.iload 5, 2) ∧ 196 + 2 = 198 := ⟨by decide +kernel, rfl⟩
theorem d_Mo_layRanks_198 : decode m_Mo_layRanks.2.1 198 = .ok (.ifCond .eq 7, 3) ∧ 198 + 3 = 201 ∧ (((198 : Nat) : Int) + (7) = ((205 : Nat) : Int)) := ⟨by decide +kernel, rfl, by decide⟩
theorem d_Mo_layRanks_201 : decode m_Mo_layRanks.2.1 201 = .ok (.iconst 1, 1) ∧ 201 + 1 = 202 := ⟨by decide +kernel, rfl⟩
theorem d_Mo_layRanks_202 : decode m_Mo_layRanks.2.1 202 = .ok (.goto 4, 3) ∧ (((202 : Nat) : Int) + (4) = ((206 : Nat) : Int)) := ⟨by decide +kernel, by decide⟩
theorem d_Mo_layRanks_205 : decode m_Mo_layRanks.2.1 205 = .ok (.iconst 0, 1) ∧ 205 + 1 = 206 := ⟨by decide +kernel, rfl⟩
theorem d_Mo_layRanks_206 : decode m_Mo_layRanks.2.1 206 = .ok (.iadd, 1) ∧ 206 + 1 = 207 := ⟨by decide +kernel, rfl⟩
theorem d_Mo_layRanks_207 : decode m_Mo_layRanks.2.1 207 = .ok (.istore_n 3, 1) ∧ 207 + 1 = 208 := ⟨by decide +kernel, rfl⟩
theorem d_Mo_layRanks_208 : decode m_Mo_layRanks.2.1 208 = .ok (.iinc 4 1, 3) ∧ 208 + 3 = 211 := ⟨by decide +kernel, rfl⟩
theorem d_Mo_layRanks_211 : decode m_Mo_layRanks.2.1 211 = .ok (.goto (-196), 3) ∧ (((211 : Nat) : Int) + (-196) = ((15 : Nat) : Int)) := ⟨by decide +kernel, by decide⟩
theorem d_Mo_layRanks_214 : decode m_Mo_layRanks.2.1 214 = .ok (.aload_n 0, 1) ∧ 214 + 1 = 215 := ⟨by decide +kernel, rfl⟩
theorem d_Mo_layRanks_215 : decode m_Mo_layRanks.2.1 215 = .ok (.getfield 41, 3) ∧ 215 + 3 = 218 := ⟨by decide +kernel, rfl⟩
theorem d_Mo_layRanks_218 : decode m_Mo_layRanks.2.1 218 = .ok (.iload_n 2, 1) ∧ 218 + 1 = 219 := ⟨by decide +kernel, rfl⟩
theorem d_Mo_layRanks_219 : decode m_Mo_layRanks.2.1 219 = .ok (.iload_n 3, 1) ∧ 219 + 1 = 220 := ⟨by decide +kernel, rfl⟩
theorem d_Mo_layRanks_220 : decode m_Mo_layRanks.2.1 220 = .ok (.iastore, 1) ∧ 220 + 1 = 221 := ⟨by decide +kernel, rfl⟩
theorem d_Mo_layRanks_221 : decode m_Mo_layRanks.2.1 221 = .ok (.iinc 2 1, 3) ∧ 221 + 3 = 224 := ⟨by decide +kernel, rfl⟩
theorem d_Mo_layRanks_224 : decode m_Mo_layRanks.2.1 224 = .ok (.goto (-222), 3) ∧ (((224 : Nat) : Int) + (-222) = ((2 : Nat) : Int)) := ⟨by decide +kernel, by decide⟩
theorem d_Mo_layRanks_227 : decode m_Mo_layRanks.2.1 227 = .ok (.return_, 1) := by decide +kernel
theorem d_Mo_isFirst_0 : decode m_Mo_isFirst.2.1 0 = .ok (.iconst 0, 1) ∧ 0 + 1 = 1 := ⟨by decide +kernel, rfl⟩
theorem d_Mo_isFirst_1 : decode m_Mo_isFirst.2.1 1 = .ok (.istore 4, 2) ∧ 1 + 2 = 3 := ⟨by decide +kernel, rfl⟩
theorem d_Mo_isFirst_3 : decode m_Mo_isFirst.2.1 3 = .ok (.iload 4, 2) ∧ 3 + 2 = 5 := ⟨by decide +kernel, rfl⟩
theorem d_Mo_isFirst_5 : decode m_Mo_isFirst.2.1 5 = .ok (.iload_n 1, 1) ∧ 5 + 1 = 6 := ⟨by decide +kernel, rfl⟩
theorem d_Mo_isFirst_6 : decode m_Mo_isFirst.2.1 6 = .ok (.if_icmp .ge 40, 3) ∧ 6 + 3 = 9 ∧ (((6 : Nat) : Int) + (40) = ((46 : Nat) : Int)) := ⟨by decide +kernel, rfl, by decide⟩
theorem d_Mo_isFirst_9 : decode m_Mo_isFirst.2.1 9 = .ok (.iload 4, 2) ∧ 9 + 2 = 11 := ⟨by decide +kernel, rfl⟩
theorem d_Mo_isFirst_11 : decode m_Mo_isFirst.2.1 11 = .ok (.iload_n 3, 1) ∧ 11 + 1 = 12 := ⟨by decide +kernel, rfl⟩
theorem d_Mo_isFirst_12 : decode m_Mo_isFirst.2.1 12 = .ok (.if_icmp .eq 28, 3) ∧ 12 + 3 = 15 ∧ (((12 : Nat) : Int) + (28) = ((40 : Nat) : Int)) := ⟨by decide +kernel, rfl, by decide⟩
theorem d_Mo_isFirst_15 : decode m_Mo_isFirst.2.1 15 = .ok (.aload_n 0, 1) ∧ 15 + 1 = 16 := ⟨by decide +kernel, rfl⟩
theorem d_Mo_isFirst_16 : decode m_Mo_isFirst.2.1 16 = .ok (.iload 4, 2) ∧ 16 + 2 = 18 := ⟨by decide +kernel, rfl⟩
theorem d_Mo_isFirst_18 : decode m_Mo_isFirst.2.1 18 = .ok (.invokevirtual 173, 3) ∧ 18 + 3 = 21 := ⟨by decide +kernel, rfl⟩
theorem d_Mo_isFirst_21 : decode m_Mo_isFirst.2.1 21 = .ok (.ifCond .ne 19, 3) ∧ 21 + 3 = 24 ∧ (((21 : Nat) : Int) + (19) = ((40 : Nat) : Int)) := ⟨by decide +kernel, rfl, by decide⟩
theorem d_Mo_isFirst_24 : decode m_Mo_isFirst.2.1 24 = .ok (.aload_n 0, 1) ∧ 24 + 1 = 25 := ⟨by decide +kernel, rfl⟩
theorem d_Mo_isFirst_25 : decode m_Mo_isFirst.2.1 25 = .ok (.iload 4, 2) ∧ 25 + 2 = 27 := ⟨by decide +kernel, rfl⟩
theorem d_Mo_isFirst_27 : decode m_Mo_isFirst.2.1 27 = .ok (.iload_n 1, 1) ∧ 27 + 1 = 28 := ⟨by decide +kernel, rfl⟩
theorem d_Mo_isFirst_28 : decode m_Mo_isFirst.2.1 28 = .ok (.bipush 20, 2) ∧ 28 + 2 = 30 ∧ (Int8.ofInt 20).toInt32 = Int32.ofInt 20 := ⟨by decide +kernel, rfl, by decide +kernel⟩
theorem d_Mo_isFirst_30 : decode m_Mo_isFirst.2.1 30 = .ok (.iload_n 2, 1) ∧ 30 + 1 = 31 := ⟨by decide +kernel, rfl⟩
theorem d_Mo_isFirst_31 : decode m_Mo_isFirst.2.1 31 = .ok (.iadd, 1) ∧ 31 + 1 = 32 := ⟨by decide +kernel, rfl⟩
theorem d_Mo_isFirst_32 : decode m_Mo_isFirst.2.1 32 = .ok (.invokevirtual 190, 3) ∧ 32 + 3 = 35 := ⟨by decide +kernel, rfl⟩
theorem d_Mo_isFirst_35 : decode m_Mo_isFirst.2.1 35 = .ok (.ifCond .ne 5, 3) ∧ 35 + 3 = 38 ∧ (((35 : Nat) : Int) + (5) = ((40 : Nat) : Int)) := ⟨by decide +kernel, rfl, by decide⟩
theorem d_Mo_isFirst_38 : decode m_Mo_isFirst.2.1 38 = .ok (.iconst 0, 1) ∧ 38 + 1 = 39 := ⟨by decide +kernel, rfl⟩
theorem d_Mo_isFirst_39 : decode m_Mo_isFirst.2.1 39 = .ok (.ireturn, 1) := by decide +kernel
theorem d_Mo_isFirst_40 : decode m_Mo_isFirst.2.1 40 = .ok (.iinc 4 1, 3) ∧ 40 + 3 = 43 := ⟨by decide +kernel, rfl⟩
theorem d_Mo_isFirst_43 : decode m_Mo_isFirst.2.1 43 = .ok (.goto (-40), 3) ∧ (((43 : Nat) : Int) + (-40) = ((3 : Nat) : Int)) := ⟨by decide +kernel, by decide⟩
theorem d_Mo_isFirst_46 : decode m_Mo_isFirst.2.1 46 = .ok (.iconst 1, 1) ∧ 46 + 1 = 47 := ⟨by decide +kernel, rfl⟩
theorem d_Mo_isFirst_47 : decode m_Mo_isFirst.2.1 47 = .ok (.ireturn, 1) := by decide +kernel
theorem d_Mo_layAll_0 : decode m_Mo_layAll.2.1 0 = .ok (.aload_n 0, 1) ∧ 0 + 1 = 1 := ⟨by decide +kernel, rfl⟩
theorem d_Mo_layAll_1 : decode m_Mo_layAll.2.1 1 = .ok (.iload_n 1, 1) ∧ 1 + 1 = 2 := ⟨by decide +kernel, rfl⟩
theorem d_Mo_layAll_2 : decode m_Mo_layAll.2.1 2 = .ok (.invokevirtual 198, 3) ∧ 2 + 3 = 5 := ⟨by decide +kernel, rfl⟩
theorem d_Mo_layAll_5 : decode m_Mo_layAll.2.1 5 = .ok (.aload_n 0, 1) ∧ 5 + 1 = 6 := ⟨by decide +kernel, rfl⟩
theorem d_Mo_layAll_6 : decode m_Mo_layAll.2.1 6 = .ok (.invokevirtual 201, 3) ∧ 6 + 3 = 9 := ⟨by decide +kernel, rfl⟩
theorem d_Mo_layAll_9 : decode m_Mo_layAll.2.1 9 = .ok (.aload_n 0, 1) ∧ 9 + 1 = 10 := ⟨by decide +kernel, rfl⟩
theorem d_Mo_layAll_10 : decode m_Mo_layAll.2.1 10 = .ok (.iload_n 1, 1) ∧ 10 + 1 = 11 := ⟨by decide +kernel, rfl⟩
theorem d_Mo_layAll_11 : decode m_Mo_layAll.2.1 11 = .ok (.invokevirtual 204, 3) ∧ 11 + 3 = 14 := ⟨by decide +kernel, rfl⟩
theorem d_Mo_layAll_14 : decode m_Mo_layAll.2.1 14 = .ok (.return_, 1) := by decide +kernel
theorem d_Mo_freshen_0 : decode m_Mo_freshen.2.1 0 = .ok (.aload_n 0, 1) ∧ 0 + 1 = 1 := ⟨by decide +kernel, rfl⟩
theorem d_Mo_freshen_1 : decode m_Mo_freshen.2.1 1 = .ok (.getfield 119, 3) ∧ 1 + 3 = 4 := ⟨by decide +kernel, rfl⟩
theorem d_Mo_freshen_4 : decode m_Mo_freshen.2.1 4 = .ok (.ifCond .eq 13, 3) ∧ 4 + 3 = 7 ∧ (((4 : Nat) : Int) + (13) = ((17 : Nat) : Int)) := ⟨by decide +kernel, rfl, by decide⟩
theorem d_Mo_freshen_7 : decode m_Mo_freshen.2.1 7 = .ok (.aload_n 0, 1) ∧ 7 + 1 = 8 := ⟨by decide +kernel, rfl⟩
theorem d_Mo_freshen_8 : decode m_Mo_freshen.2.1 8 = .ok (.iconst (-1), 1) ∧ 8 + 1 = 9 := ⟨by decide +kernel, rfl⟩
theorem d_Mo_freshen_9 : decode m_Mo_freshen.2.1 9 = .ok (.invokevirtual 207, 3) ∧ 9 + 3 = 12 := ⟨by decide +kernel, rfl⟩
theorem d_Mo_freshen_12 : decode m_Mo_freshen.2.1 12 = .ok (.aload_n 0, 1) ∧ 12 + 1 = 13 := ⟨by decide +kernel, rfl⟩
theorem d_Mo_freshen_13 : decode m_Mo_freshen.2.1 13 = .ok (.iconst 0, 1) ∧ 13 + 1 = 14 := ⟨by decide +kernel, rfl⟩
theorem d_Mo_freshen_14 : decode m_Mo_freshen.2.1 14 = .ok (.putfield 119, 3) ∧ 14 + 3 = 17 := ⟨by decide +kernel, rfl⟩
theorem d_Mo_freshen_17 : decode m_Mo_freshen.2.1 17 = .ok (.return_, 1) := by decide +kernel
theorem d_Mo_cellsIn_0 : decode m_Mo_cellsIn.2.1 0 = .ok (.iconst 2, 1) ∧ 0 + 1 = 1 := ⟨by decide +kernel, rfl⟩
theorem d_Mo_cellsIn_1 : decode m_Mo_cellsIn.2.1 1 = .ok (.aload_n 0, 1) ∧ 1 + 1 = 2 := ⟨by decide +kernel, rfl⟩
theorem d_Mo_cellsIn_2 : decode m_Mo_cellsIn.2.1 2 = .ok (.getfield 41, 3) ∧ 2 + 3 = 5 := ⟨by decide +kernel, rfl⟩
theorem d_Mo_cellsIn_5 : decode m_Mo_cellsIn.2.1 5 = .ok (.iload_n 1, 1) ∧ 5 + 1 = 6 := ⟨by decide +kernel, rfl⟩
theorem d_Mo_cellsIn_6 : decode m_Mo_cellsIn.2.1 6 = .ok (.iaload, 1) ∧ 6 + 1 = 7 := ⟨by decide +kernel, rfl⟩
theorem d_Mo_cellsIn_7 : decode m_Mo_cellsIn.2.1 7 = .ok (.imul, 1) ∧ 7 + 1 = 8 := ⟨by decide +kernel, rfl⟩
theorem d_Mo_cellsIn_8 : decode m_Mo_cellsIn.2.1 8 = .ok (.iconst 1, 1) ∧ 8 + 1 = 9 := ⟨by decide +kernel, rfl⟩
theorem d_Mo_cellsIn_9 : decode m_Mo_cellsIn.2.1 9 = .ok (.iadd, 1) ∧ 9 + 1 = 10 := ⟨by decide +kernel, rfl⟩
theorem d_Mo_cellsIn_10 : decode m_Mo_cellsIn.2.1 10 = .ok (.ireturn, 1) := by decide +kernel
theorem d_Mo_cellsAll_0 : decode m_Mo_cellsAll.2.1 0 = .ok (.iconst 0, 1) ∧ 0 + 1 = 1 := ⟨by decide +kernel, rfl⟩
theorem d_Mo_cellsAll_1 : decode m_Mo_cellsAll.2.1 1 = .ok (.istore_n 1, 1) ∧ 1 + 1 = 2 := ⟨by decide +kernel, rfl⟩
theorem d_Mo_cellsAll_2 : decode m_Mo_cellsAll.2.1 2 = .ok (.iconst 0, 1) ∧ 2 + 1 = 3 := ⟨by decide +kernel, rfl⟩
theorem d_Mo_cellsAll_3 : decode m_Mo_cellsAll.2.1 3 = .ok (.istore_n 2, 1) ∧ 3 + 1 = 4 := ⟨by decide +kernel, rfl⟩
theorem d_Mo_cellsAll_4 : decode m_Mo_cellsAll.2.1 4 = .ok (.iload_n 2, 1) ∧ 4 + 1 = 5 := ⟨by decide +kernel, rfl⟩
theorem d_Mo_cellsAll_5 : decode m_Mo_cellsAll.2.1 5 = .ok (.aload_n 0, 1) ∧ 5 + 1 = 6 := ⟨by decide +kernel, rfl⟩
theorem d_Mo_cellsAll_6 : decode m_Mo_cellsAll.2.1 6 = .ok (.getfield 184, 3) ∧ 6 + 3 = 9 := ⟨by decide +kernel, rfl⟩
theorem d_Mo_cellsAll_9 : decode m_Mo_cellsAll.2.1 9 = .ok (.if_icmp .ge 17, 3) ∧ 9 + 3 = 12 ∧ (((9 : Nat) : Int) + (17) = ((26 : Nat) : Int)) := ⟨by decide +kernel, rfl, by decide⟩
theorem d_Mo_cellsAll_12 : decode m_Mo_cellsAll.2.1 12 = .ok (.iload_n 1, 1) ∧ 12 + 1 = 13 := ⟨by decide +kernel, rfl⟩
theorem d_Mo_cellsAll_13 : decode m_Mo_cellsAll.2.1 13 = .ok (.aload_n 0, 1) ∧ 13 + 1 = 14 := ⟨by decide +kernel, rfl⟩
theorem d_Mo_cellsAll_14 : decode m_Mo_cellsAll.2.1 14 = .ok (.iload_n 2, 1) ∧ 14 + 1 = 15 := ⟨by decide +kernel, rfl⟩
theorem d_Mo_cellsAll_15 : decode m_Mo_cellsAll.2.1 15 = .ok (.invokevirtual 210, 3) ∧ 15 + 3 = 18 := ⟨by decide +kernel, rfl⟩
theorem d_Mo_cellsAll_18 : decode m_Mo_cellsAll.2.1 18 = .ok (.iadd, 1) ∧ 18 + 1 = 19 := ⟨by decide +kernel, rfl⟩
theorem d_Mo_cellsAll_19 : decode m_Mo_cellsAll.2.1 19 = .ok (.istore_n 1, 1) ∧ 19 + 1 = 20 := ⟨by decide +kernel, rfl⟩
theorem d_Mo_cellsAll_20 : decode m_Mo_cellsAll.2.1 20 = .ok (.iinc 2 1, 3) ∧ 20 + 3 = 23 := ⟨by decide +kernel, rfl⟩
theorem d_Mo_cellsAll_23 : decode m_Mo_cellsAll.2.1 23 = .ok (.goto (-19), 3) ∧ (((23 : Nat) : Int) + (-19) = ((4 : Nat) : Int)) := ⟨by decide +kernel, by decide⟩
theorem d_Mo_cellsAll_26 : decode m_Mo_cellsAll.2.1 26 = .ok (.iload_n 1, 1) ∧ 26 + 1 = 27 := ⟨by decide +kernel, rfl⟩
theorem d_Mo_cellsAll_27 : decode m_Mo_cellsAll.2.1 27 = .ok (.ireturn, 1) := by decide +kernel
theorem d_Mo_isStack_0 : decode m_Mo_isStack.2.1 0 = .ok (.aload_n 0, 1) ∧ 0 + 1 = 1 := ⟨by decide +kernel, rfl⟩
theorem d_Mo_isStack_1 : decode m_Mo_isStack.2.1 1 = .ok (.invokevirtual 213, 3) ∧ 1 + 3 = 4 := ⟨by decide +kernel, rfl⟩
theorem d_Mo_isStack_4 : decode m_Mo_isStack.2.1 4 = .ok (.ifCond .eq 5, 3) ∧ 4 + 3 = 7 ∧ (((4 : Nat) : Int) + (5) = ((9 : Nat) : Int)) := ⟨by decide +kernel, rfl, by decide⟩
theorem d_Mo_isStack_7 : decode m_Mo_isStack.2.1 7 = .ok (.iconst 0, 1) ∧ 7 + 1 = 8 := ⟨by decide +kernel, rfl⟩
theorem d_Mo_isStack_8 : decode m_Mo_isStack.2.1 8 = .ok (.ireturn, 1) := by decide +kernel
theorem d_Mo_isStack_9 : decode m_Mo_isStack.2.1 9 = .ok (.aload_n 0, 1) ∧ 9 + 1 = 10 := ⟨by decide +kernel, rfl⟩
theorem d_Mo_isStack_10 : decode m_Mo_isStack.2.1 10 = .ok (.invokevirtual 217, 3) ∧ 10 + 3 = 13 := ⟨by decide +kernel, rfl⟩
theorem d_Mo_isStack_13 : decode m_Mo_isStack.2.1 13 = .ok (.iload_n 1, 1) ∧ 13 + 1 = 14 := ⟨by decide +kernel, rfl⟩
theorem d_Mo_isStack_14 : decode m_Mo_isStack.2.1 14 = .ok (.i2l, 1) ∧ 14 + 1 = 15 := ⟨by decide +kernel, rfl⟩
theorem d_Mo_isStack_15 : decode m_Mo_isStack.2.1 15 = .ok (.lconst 0, 1) ∧ 15 + 1 = 16 := ⟨by decide +kernel, rfl⟩
theorem d_Mo_isStack_16 : decode m_Mo_isStack.2.1 16 = .ok (.aload_n 0, 1) ∧ 16 + 1 = 17 := ⟨by decide +kernel, rfl⟩
theorem d_Mo_isStack_17 : decode m_Mo_isStack.2.1 17 = .ok (.getfield 184, 3) ∧ 17 + 3 = 20 := ⟨by decide +kernel, rfl⟩
theorem d_Mo_isStack_20 : decode m_Mo_isStack.2.1 20 = .ok (.iconst 1, 1) ∧ 20 + 1 = 21 := ⟨by decide +kernel, rfl⟩
theorem d_Mo_isStack_21 : decode m_Mo_isStack.2.1 21 = .ok (.isub, 1) ∧ 21 + 1 = 22 := ⟨by decide +kernel, rfl⟩
theorem d_Mo_isStack_22 : decode m_Mo_isStack.2.1 22 = .ok (.i2l, 1) ∧ 22 + 1 = 23 := ⟨by decide +kernel, rfl⟩
theorem d_Mo_isStack_23 : decode m_Mo_isStack.2.1 23 = .ok (.invokestatic 80, 3) ∧ 23 + 3 = 26 := ⟨by decide +kernel, rfl⟩
theorem d_Mo_isStack_26 : decode m_Mo_isStack.2.1 26 = .ok (.ireturn, 1) := by decide +kernel
theorem d_Mo_isCell_0 : decode m_Mo_isCell.2.1 0 = .ok (.aload_n 0, 1) ∧ 0 + 1 = 1 := ⟨by decide +kernel, rfl⟩
theorem d_Mo_isCell_1 : decode m_Mo_isCell.2.1 1 = .ok (.iload_n 1, 1) ∧ 1 + 1 = 2 := ⟨by decide +kernel, rfl⟩
theorem d_Mo_isCell_2 : decode m_Mo_isCell.2.1 2 = .ok (.invokevirtual 220, 3) ∧ 2 + 3 = 5 := ⟨by decide +kernel, rfl⟩
theorem d_Mo_isCell_5 : decode m_Mo_isCell.2.1 5 = .ok (.ifCond .eq 24, 3) ∧ 5 + 3 = 8 ∧ (((5 : Nat) : Int) + (24) = ((29 : Nat) : Int)) := ⟨by decide +kernel, rfl, by decide⟩
theorem d_Mo_isCell_8 : decode m_Mo_isCell.2.1 8 = .ok (.iload_n 2, 1) ∧ 8 + 1 = 9 := ⟨by decide +kernel, rfl⟩
theorem d_Mo_isCell_9 : decode m_Mo_isCell.2.1 9 = .ok (.i2l, 1) ∧ 9 + 1 = 10 := ⟨by decide +kernel, rfl⟩
theorem d_Mo_isCell_10 : decode m_Mo_isCell.2.1 10 = .ok (.lconst 0, 1) ∧ 10 + 1 = 11 := ⟨by decide +kernel, rfl⟩
theorem d_Mo_isCell_11 : decode m_Mo_isCell.2.1 11 = .ok (.aload_n 0, 1) ∧ 11 + 1 = 12 := ⟨by decide +kernel, rfl⟩
theorem d_Mo_isCell_12 : decode m_Mo_isCell.2.1 12 = .ok (.iload_n 1, 1) ∧ 12 + 1 = 13 := ⟨by decide +kernel, rfl⟩
theorem d_Mo_isCell_13 : decode m_Mo_isCell.2.1 13 = .ok (.invokevirtual 210, 3) ∧ 13 + 3 = 16 := ⟨by decide +kernel, rfl⟩
theorem d_Mo_isCell_16 : decode m_Mo_isCell.2.1 16 = .ok (.iconst 1, 1) ∧ 16 + 1 = 17 := ⟨by decide +kernel, rfl⟩
theorem d_Mo_isCell_17 : decode m_Mo_isCell.2.1 17 = .ok (.isub, 1) ∧ 17 + 1 = 18 := ⟨by decide +kernel, rfl⟩
theorem d_Mo_isCell_18 : decode m_Mo_isCell.2.1 18 = .ok (.i2l, 1) ∧ 18 + 1 = 19 := ⟨by decide +kernel, rfl⟩
theorem d_Mo_isCell_19 : decode m_Mo_isCell.2.1 19 = .ok (.invokestatic 80, 3) ∧ 19 + 3 = 22 := ⟨by decide +kernel, rfl⟩
theorem d_Mo_isCell_22 : decode m_Mo_isCell.2.1 22 = .ok (.ifCond .eq 7, 3) ∧ 22 + 3 = 25 ∧ (((22 : Nat) : Int) + (7) = ((29 : Nat) : Int)) := ⟨by decide +kernel, rfl, by decide⟩
theorem d_Mo_isCell_25 : decode m_Mo_isCell.2.1 25 = .ok (.iconst 1, 1) ∧ 25 + 1 = 26 := ⟨by decide +kernel, rfl⟩
theorem d_Mo_isCell_26 : decode m_Mo_isCell.2.1 26 = .ok (.goto 4, 3) ∧ (((26 : Nat) : Int) + (4) = ((30 : Nat) : Int)) := ⟨by decide +kernel, by decide⟩
theorem d_Mo_isCell_29 : decode m_Mo_isCell.2.1 29 = .ok (.iconst 0, 1) ∧ 29 + 1 = 30 := ⟨by decide +kernel, rfl⟩
theorem d_Mo_isCell_30 : decode m_Mo_isCell.2.1 30 = .ok (.ireturn, 1) := by decide +kernel
theorem d_Mo_lies_0 : decode m_Mo_lies.2.1 0 = .ok (.aload_n 0, 1) ∧ 0 + 1 = 1 := ⟨by decide +kernel, rfl⟩
theorem d_Mo_lies_1 : decode m_Mo_lies.2.1 1 = .ok (.iload_n 3, 1) ∧ 1 + 1 = 2 := ⟨by decide +kernel, rfl⟩
theorem d_Mo_lies_2 : decode m_Mo_lies.2.1 2 = .ok (.invokevirtual 173, 3) ∧ 2 + 3 = 5 := ⟨by decide +kernel, rfl⟩
theorem d_Mo_lies_5 : decode m_Mo_lies.2.1 5 = .ok (.ifCond .eq 41, 3) ∧ 5 + 3 = 8 ∧ (((5 : Nat) : Int) + (41) = ((46 : Nat) : Int)) := ⟨by decide +kernel, rfl, by decide⟩
theorem d_Mo_lies_8 : decode m_Mo_lies.2.1 8 = .ok (.aload_n 0, 1) ∧ 8 + 1 = 9 := ⟨by decide +kernel, rfl⟩
theorem d_Mo_lies_9 : decode m_Mo_lies.2.1 9 = .ok (.bipush 20, 2) ∧ 9 + 2 = 11 ∧ (Int8.ofInt 20).toInt32 = Int32.ofInt 20 := ⟨by decide +kernel, rfl, by decide +kernel⟩
theorem d_Mo_lies_11 : decode m_Mo_lies.2.1 11 = .ok (.iload_n 1, 1) ∧ 11 + 1 = 12 := ⟨by decide +kernel, rfl⟩
theorem d_Mo_lies_12 : decode m_Mo_lies.2.1 12 = .ok (.iadd, 1) ∧ 12 + 1 = 13 := ⟨by decide +kernel, rfl⟩
theorem d_Mo_lies_13 : decode m_Mo_lies.2.1 13 = .ok (.aload_n 0, 1) ∧ 13 + 1 = 14 := ⟨by decide +kernel, rfl⟩
theorem d_Mo_lies_14 : decode m_Mo_lies.2.1 14 = .ok (.getfield 19, 3) ∧ 14 + 3 = 17 := ⟨by decide +kernel, rfl⟩
theorem d_Mo_lies_17 : decode m_Mo_lies.2.1 17 = .ok (.iload_n 3, 1) ∧ 17 + 1 = 18 := ⟨by decide +kernel, rfl⟩
theorem d_Mo_lies_18 : decode m_Mo_lies.2.1 18 = .ok (.iaload, 1) ∧ 18 + 1 = 19 := ⟨by decide +kernel, rfl⟩
theorem d_Mo_lies_19 : decode m_Mo_lies.2.1 19 = .ok (.i2l, 1) ∧ 19 + 1 = 20 := ⟨by decide +kernel, rfl⟩
theorem d_Mo_lies_20 : decode m_Mo_lies.2.1 20 = .ok (.lconst 1, 1) ∧ 20 + 1 = 21 := ⟨by decide +kernel, rfl⟩
theorem d_Mo_lies_21 : decode m_Mo_lies.2.1 21 = .ok (.invokevirtual 152, 3) ∧ 21 + 3 = 24 := ⟨by decide +kernel, rfl⟩
theorem d_Mo_lies_24 : decode m_Mo_lies.2.1 24 = .ok (.istore 4, 2) ∧ 24 + 2 = 26 := ⟨by decide +kernel, rfl⟩
theorem d_Mo_lies_26 : decode m_Mo_lies.2.1 26 = .ok (.iload 4, 2) ∧ 26 + 2 = 28 := ⟨by decide +kernel, rfl⟩
theorem d_Mo_lies_28 : decode m_Mo_lies.2.1 28 = .ok (.ifCond .le 7, 3) ∧ 28 + 3 = 31 ∧ (((28 : Nat) : Int) + (7) = ((35 : Nat) : Int)) := ⟨by decide +kernel, rfl, by decide⟩
theorem d_Mo_lies_31 : decode m_Mo_lies.2.1 31 = .ok (.iconst 0, 1) ∧ 31 + 1 = 32 := ⟨by decide +kernel, rfl⟩
theorem d_Mo_lies_32 : decode m_Mo_lies.2.1 32 = .ok (.goto 13, 3) ∧ (((32 : Nat) : Int) + (13) = ((45 : Nat) : Int)) := ⟨by decide +kernel, by decide⟩
theorem d_Mo_lies_35 : decode m_Mo_lies.2.1 35 = .ok (.iload 4, 2) ∧ 35 + 2 = 37 := ⟨by decide +kernel, rfl⟩
theorem d_Mo_lies_37 : decode m_Mo_lies.2.1 37 = .ok (.ifCond .ne 7, 3) ∧ 37 + 3 = 40 ∧ (((37 : Nat) : Int) + (7) = ((44 : Nat) : Int)) := ⟨by decide +kernel, rfl, by decide⟩
theorem d_Mo_lies_40 : decode m_Mo_lies.2.1 40 = .ok (.iconst 1, 1) ∧ 40 + 1 = 41 := ⟨by decide +kernel, rfl⟩
theorem d_Mo_lies_41 : decode m_Mo_lies.2.1 41 = .ok (.goto 4, 3) ∧ (((41 : Nat) : Int) + (4) = ((45 : Nat) : Int)) := ⟨by decide +kernel, by decide⟩
theorem d_Mo_lies_44 : decode m_Mo_lies.2.1 44 = .ok (.iconst 2, 1) ∧ 44 + 1 = 45 := ⟨by decide +kernel, rfl⟩
theorem d_Mo_lies_45 : decode m_Mo_lies.2.1 45 = .ok (.ireturn, 1) := by decide +kernel
theorem d_Mo_lies_46 : decode m_Mo_lies.2.1 46 = .ok (.iconst 2, 1) ∧ 46 + 1 = 47 := ⟨by decide +kernel, rfl⟩
theorem d_Mo_lies_47 : decode m_Mo_lies.2.1 47 = .ok (.aload_n 0, 1) ∧ 47 + 1 = 48 := ⟨by decide +kernel, rfl⟩
theorem d_Mo_lies_48 : decode m_Mo_lies.2.1 48 = .ok (.getfield 38, 3) ∧ 48 + 3 = 51 := ⟨by decide +kernel, rfl⟩
theorem d_Mo_lies_51 : decode m_Mo_lies.2.1 51 = .ok (.iconst 4, 1) ∧ 51 + 1 = 52 := ⟨by decide +kernel, rfl⟩
theorem d_Mo_lies_52 : decode m_Mo_lies.2.1 52 = .ok (.iload_n 1, 1) ∧ 52 + 1 = 53 := ⟨by decide +kernel, rfl⟩
theorem d_Mo_lies_53 : decode m_Mo_lies.2.1 53 = .ok (.imul, 1) ∧ 53 + 1 = 54 := ⟨by decide +kernel, rfl⟩
theorem d_Mo_lies_54 : decode m_Mo_lies.2.1 54 = .ok (.iload_n 3, 1) ∧ 54 + 1 = 55 := ⟨by decide +kernel, rfl⟩
theorem d_Mo_lies_55 : decode m_Mo_lies.2.1 55 = .ok (.iadd, 1) ∧ 55 + 1 = 56 := ⟨by decide +kernel, rfl⟩
theorem d_Mo_lies_56 : decode m_Mo_lies.2.1 56 = .ok (.iaload, 1) ∧ 56 + 1 = 57 := ⟨by decide +kernel, rfl⟩
theorem d_Mo_lies_57 : decode m_Mo_lies.2.1 57 = .ok (.imul, 1) ∧ 57 + 1 = 58 := ⟨by decide +kernel, rfl⟩
theorem d_Mo_lies_58 : decode m_Mo_lies.2.1 58 = .ok (.iconst 1, 1) ∧ 58 + 1 = 59 := ⟨by decide +kernel, rfl⟩
theorem d_Mo_lies_59 : decode m_Mo_lies.2.1 59 = .ok (.iadd, 1) ∧ 59 + 1 = 60 := ⟨by decide +kernel, rfl⟩
theorem d_Mo_lies_60 : decode m_Mo_lies.2.1 60 = .ok (.istore 4, 2) ∧ 60 + 2 = 62 := ⟨by decide +kernel, rfl⟩
theorem d_Mo_lies_62 : decode m_Mo_lies.2.1 62 = .ok (.iload 4, 2) ∧ 62 + 2 = 64 := ⟨by decide +kernel, rfl⟩
theorem d_Mo_lies_64 : decode m_Mo_lies.2.1 64 = .ok (.iload_n 2, 1) ∧ 64 + 1 = 65 := ⟨by decide +kernel, rfl⟩
theorem d_Mo_lies_65 : decode m_Mo_lies.2.1 65 = .ok (.if_icmp .ge 7, 3) ∧ 65 + 3 = 68 ∧ (((65 : Nat) : Int) + (7) = ((72 : Nat) : Int)) := ⟨by decide +kernel, rfl, by decide⟩
theorem d_Mo_lies_68 : decode m_Mo_lies.2.1 68 = .ok (.iconst 0, 1) ∧ 68 + 1 = 69 := ⟨by decide +kernel, rfl⟩
theorem d_Mo_lies_69 : decode m_Mo_lies.2.1 69 = .ok (.goto 14, 3) ∧ (((69 : Nat) : Int) + (14) = ((83 : Nat) : Int)) := ⟨by decide +kernel, by decide⟩
theorem d_Mo_lies_72 : decode m_Mo_lies.2.1 72 = .ok (.iload 4, 2) ∧ 72 + 2 = 74 := ⟨by decide +kernel, rfl⟩
theorem d_Mo_lies_74 : decode m_Mo_lies.2.1 74 = .ok (.iload_n 2, 1) ∧ 74 + 1 = 75 := ⟨by decide +kernel, rfl⟩
theorem d_Mo_lies_75 : decode m_Mo_lies.2.1 75 = .ok (.if_icmp .ne 7, 3) ∧ 75 + 3 = 78 ∧ (((75 : Nat) : Int) + (7) = ((82 : Nat) : Int)) := ⟨by decide +kernel, rfl, by decide⟩
theorem d_Mo_lies_78 : decode m_Mo_lies.2.1 78 = .ok (.iconst 1, 1) ∧ 78 + 1 = 79 := ⟨by decide +kernel, rfl⟩
theorem d_Mo_lies_79 : decode m_Mo_lies.2.1 79 = .ok (.goto 4, 3) ∧ (((79 : Nat) : Int) + (4) = ((83 : Nat) : Int)) := ⟨by decide +kernel, by decide⟩
theorem d_Mo_lies_82 : decode m_Mo_lies.2.1 82 = .ok (.iconst 2, 1) ∧ 82 + 1 = 83 := ⟨by decide +kernel, rfl⟩
theorem d_Mo_lies_83 : decode m_Mo_lies.2.1 83 = .ok (.ireturn, 1) := by decide +kernel
theorem d_Mo_stack_0 : decode m_Mo_stack.2.1 0 = .ok (.aload_n 0, 1) ∧ 0 + 1 = 1 := ⟨by decide +kernel, rfl⟩
theorem d_Mo_stack_1 : decode m_Mo_stack.2.1 1 = .ok (.iload_n 1, 1) ∧ 1 + 1 = 2 := ⟨by decide +kernel, rfl⟩
theorem d_Mo_stack_2 : decode m_Mo_stack.2.1 2 = .ok (.invokevirtual 220, 3) ∧ 2 + 3 = 5 := ⟨by decide +kernel, rfl⟩
theorem d_Mo_stack_5 : decode m_Mo_stack.2.1 5 = .ok (.ifCond .eq 11, 3) ∧ 5 + 3 = 8 ∧ (((5 : Nat) : Int) + (11) = ((16 : Nat) : Int)) := ⟨by decide +kernel, rfl, by decide⟩
theorem d_Mo_stack_8 : decode m_Mo_stack.2.1 8 = .ok (.aload_n 0, 1) ∧ 8 + 1 = 9 := ⟨by decide +kernel, rfl⟩
theorem d_Mo_stack_9 : decode m_Mo_stack.2.1 9 = .ok (.iload_n 1, 1) ∧ 9 + 1 = 10 := ⟨by decide +kernel, rfl⟩
theorem d_Mo_stack_10 : decode m_Mo_stack.2.1 10 = .ok (.invokevirtual 210, 3) ∧ 10 + 3 = 13 := ⟨by decide +kernel, rfl⟩
theorem d_Mo_stack_13 : decode m_Mo_stack.2.1 13 = .ok (.goto 5, 3) ∧ (((13 : Nat) : Int) + (5) = ((18 : Nat) : Int)) := ⟨by decide +kernel, by decide⟩
theorem d_Mo_stack_16 : decode m_Mo_stack.2.1 16 = .ok (.bipush (-101), 2) ∧ 16 + 2 = 18 ∧ (Int8.ofInt (-101)).toInt32 = Int32.ofInt (-101) := ⟨by decide +kernel, rfl, by decide +kernel⟩
theorem d_Mo_stack_18 : decode m_Mo_stack.2.1 18 = .ok (.ireturn, 1) := by decide +kernel
theorem d_Mo_cell_0 : decode m_Mo_cell.2.1 0 = .ok (.aload_n 0, 1) ∧ 0 + 1 = 1 := ⟨by decide +kernel, rfl⟩
theorem d_Mo_cell_1 : decode m_Mo_cell.2.1 1 = .ok (.iload_n 1, 1) ∧ 1 + 1 = 2 := ⟨by decide +kernel, rfl⟩
theorem d_Mo_cell_2 : decode m_Mo_cell.2.1 2 = .ok (.iload_n 2, 1) ∧ 2 + 1 = 3 := ⟨by decide +kernel, rfl⟩
theorem d_Mo_cell_3 : decode m_Mo_cell.2.1 3 = .ok (.invokevirtual 223, 3) ∧ 3 + 3 = 6 := ⟨by decide +kernel, rfl⟩
theorem d_Mo_cell_6 : decode m_Mo_cell.2.1 6 = .ok (.ifCond .eq 21, 3) ∧ 6 + 3 = 9 ∧ (((6 : Nat) : Int) + (21) = ((27 : Nat) : Int)) := ⟨by decide +kernel, rfl, by decide⟩
theorem d_Mo_cell_9 : decode m_Mo_cell.2.1 9 = .ok (.aload_n 0, 1) ∧ 9 + 1 = 10 := ⟨by decide +kernel, rfl⟩
theorem d_Mo_cell_10 : decode m_Mo_cell.2.1 10 = .ok (.iload_n 3, 1) ∧ 10 + 1 = 11 := ⟨by decide +kernel, rfl⟩
theorem d_Mo_cell_11 : decode m_Mo_cell.2.1 11 = .ok (.invokevirtual 227, 3) ∧ 11 + 3 = 14 := ⟨by decide +kernel, rfl⟩
theorem d_Mo_cell_14 : decode m_Mo_cell.2.1 14 = .ok (.ifCond .eq 13, 3) ∧ 14 + 3 = 17 ∧ (((14 : Nat) : Int) + (13) = ((27 : Nat) : Int)) := ⟨by decide +kernel, rfl, by decide⟩
theorem d_Mo_cell_17 : decode m_Mo_cell.2.1 17 = .ok (.aload_n 0, 1) ∧ 17 + 1 = 18 := ⟨by decide +kernel, rfl⟩
theorem d_Mo_cell_18 : decode m_Mo_cell.2.1 18 = .ok (.iload_n 1, 1) ∧ 18 + 1 = 19 := ⟨by decide +kernel, rfl⟩
theorem d_Mo_cell_19 : decode m_Mo_cell.2.1 19 = .ok (.iload_n 2, 1) ∧ 19 + 1 = 20 := ⟨by decide +kernel, rfl⟩
theorem d_Mo_cell_20 : decode m_Mo_cell.2.1 20 = .ok (.iload_n 3, 1) ∧ 20 + 1 = 21 := ⟨by decide +kernel, rfl⟩
theorem d_Mo_cell_21 : decode m_Mo_cell.2.1 21 = .ok (.invokevirtual 230, 3) ∧ 21 + 3 = 24 := ⟨by decide +kernel, rfl⟩
theorem d_Mo_cell_24 : decode m_Mo_cell.2.1 24 = .ok (.goto 5, 3) ∧ (((24 : Nat) : Int) + (5) = ((29 : Nat) : Int)) := ⟨by decide +kernel, by decide⟩
theorem d_Mo_cell_27 : decode m_Mo_cell.2.1 27 = .ok (.bipush (-101), 2) ∧ 27 + 2 = 29 ∧ (Int8.ofInt (-101)).toInt32 = Int32.ofInt (-101) := ⟨by decide +kernel, rfl, by decide +kernel⟩
theorem d_Mo_cell_29 : decode m_Mo_cell.2.1 29 = .ok (.ireturn, 1) := by decide +kernel
