theorem d_St_init_0 : decode m_St_init.2.1 0 = .ok (.aload_n 0, 1) ∧ 0 + 1 = 1 := ⟨by decide +kernel, rfl⟩
theorem d_St_init_1 : decode m_St_init.2.1 1 = .ok (.invokespecial 3, 3) ∧ 1 + 3 = 4 := ⟨by decide +kernel, rfl⟩
theorem d_St_init_4 : decode m_St_init.2.1 4 = .ok (.aload_n 0, 1) ∧ 4 + 1 = 5 := ⟨by decide +kernel, rfl⟩
theorem d_St_init_5 : decode m_St_init.2.1 5 = .ok (.bipush 12, 2) ∧ 5 + 2 = 7 ∧ (Int8.ofInt 12).toInt32 = Int32.ofInt 12 := ⟨by decide +kernel, rfl, by decide +kernel⟩
theorem d_St_init_7 : decode m_St_init.2.1 7 = .ok (.anewarray 9, 3) ∧ 7 + 3 = 10 := ⟨by decide +kernel, rfl⟩
theorem d_St_init_10 : decode m_St_init.2.1 10 = .ok (.putfield 11, 3) ∧ 10 + 3 = 13 := ⟨by decide +kernel, rfl⟩
theorem d_St_init_13 : decode m_St_init.2.1 13 = .ok (.aload_n 0, 1) ∧ 13 + 1 = 14 := ⟨by decide +kernel, rfl⟩
theorem d_St_init_14 : decode m_St_init.2.1 14 = .ok (.iconst 0, 1) ∧ 14 + 1 = 15 := ⟨by decide +kernel, rfl⟩
theorem d_St_init_15 : decode m_St_init.2.1 15 = .ok (.putfield 17, 3) ∧ 15 + 3 = 18 := ⟨by decide +kernel, rfl⟩
theorem d_St_init_18 : decode m_St_init.2.1 18 = .ok (.aload_n 0, 1) ∧ 18 + 1 = 19 := ⟨by decide +kernel, rfl⟩
theorem d_St_init_19 : decode m_St_init.2.1 19 = .ok (.iconst 0, 1) ∧ 19 + 1 = 20 := ⟨by decide +kernel, rfl⟩
theorem d_St_init_20 : decode m_St_init.2.1 20 = .ok (.putfield 21, 3) ∧ 20 + 3 = 23 := ⟨by decide +kernel, rfl⟩
theorem d_St_init_23 : decode m_St_init.2.1 23 = .ok (.aload_n 0, 1) ∧ 23 + 1 = 24 := ⟨by decide +kernel, rfl⟩
theorem d_St_init_24 : decode m_St_init.2.1 24 = .ok (.iconst 0, 1) ∧ 24 + 1 = 25 := ⟨by decide +kernel, rfl⟩
theorem d_St_init_25 : decode m_St_init.2.1 25 = .ok (.putfield 24, 3) ∧ 25 + 3 = 28 := ⟨by decide +kernel, rfl⟩
theorem d_St_init_28 : decode m_St_init.2.1 28 = .ok (.aload_n 0, 1) ∧ 28 + 1 = 29 := ⟨by decide +kernel, rfl⟩
theorem d_St_init_29 : decode m_St_init.2.1 29 = .ok (.bipush 25, 2) ∧ 29 + 2 = 31 ∧ (Int8.ofInt 25).toInt32 = Int32.ofInt 25 := ⟨by decide +kernel, rfl, by decide +kernel⟩
theorem d_St_init_31 : decode m_St_init.2.1 31 = .ok (.newarray .int, 2) ∧ 31 + 2 = 33 := ⟨by decide +kernel, rfl⟩
theorem d_St_init_33 : decode m_St_init.2.1 33 = .ok (.putfield 27, 3) ∧ 33 + 3 = 36 := ⟨by decide +kernel, rfl⟩
theorem d_St_init_36 : decode m_St_init.2.1 36 = .ok (.aload_n 0, 1) ∧ 36 + 1 = 37 := ⟨by decide +kernel, rfl⟩
theorem d_St_init_37 : decode m_St_init.2.1 37 = .ok (.bipush 100, 2) ∧ 37 + 2 = 39 ∧ (Int8.ofInt 100).toInt32 = Int32.ofInt 100 := ⟨by decide +kernel, rfl, by decide +kernel⟩
theorem d_St_init_39 : decode m_St_init.2.1 39 = .ok (.newarray .int, 2) ∧ 39 + 2 = 41 := ⟨by decide +kernel, rfl⟩
theorem d_St_init_41 : decode m_St_init.2.1 41 = .ok (.putfield 31, 3) ∧ 41 + 3 = 44 := ⟨by decide +kernel, rfl⟩
theorem d_St_init_44 : decode m_St_init.2.1 44 = .ok (.aload_n 0, 1) ∧ 44 + 1 = 45 := ⟨by decide +kernel, rfl⟩
theorem d_St_init_45 : decode m_St_init.2.1 45 = .ok (.iconst 4, 1) ∧ 45 + 1 = 46 := ⟨by decide +kernel, rfl⟩
theorem d_St_init_46 : decode m_St_init.2.1 46 = .ok (.newarray .boolean, 2) ∧ 46 + 2 = 48 := ⟨by decide +kernel, rfl⟩
theorem d_St_init_48 : decode m_St_init.2.1 48 = .ok (.putfield 34, 3) ∧ 48 + 3 = 51 := ⟨by decide +kernel, rfl⟩
theorem d_St_init_51 : decode m_St_init.2.1 51 = .ok (.aload_n 0, 1) ∧ 51 + 1 = 52 := ⟨by decide +kernel, rfl⟩
theorem d_St_init_52 : decode m_St_init.2.1 52 = .ok (.iconst 4, 1) ∧ 52 + 1 = 53 := ⟨by decide +kernel, rfl⟩
theorem d_St_init_53 : decode m_St_init.2.1 53 = .ok (.newarray .int, 2) ∧ 53 + 2 = 55 := ⟨by decide +kernel, rfl⟩
theorem d_St_init_55 : decode m_St_init.2.1 55 = .ok (.putfield 38, 3) ∧ 55 + 3 = 58 := ⟨by decide +kernel, rfl⟩
theorem d_St_init_58 : decode m_St_init.2.1 58 = .ok (.aload_n 0, 1) ∧ 58 + 1 = 59 := ⟨by decide +kernel, rfl⟩
theorem d_St_init_59 : decode m_St_init.2.1 59 = .ok (.iconst 4, 1) ∧ 59 + 1 = 60 := ⟨by decide +kernel, rfl⟩
theorem d_St_init_60 : decode m_St_init.2.1 60 = .ok (.newarray .int, 2) ∧ 60 + 2 = 62 := ⟨by decide +kernel, rfl⟩
theorem d_St_init_62 : decode m_St_init.2.1 62 = .ok (.putfield 41, 3) ∧ 62 + 3 = 65 := ⟨by decide +kernel, rfl⟩
theorem d_St_init_65 : decode m_St_init.2.1 65 = .ok (.aload_n 0, 1) ∧ 65 + 1 = 66 := ⟨by decide +kernel, rfl⟩
theorem d_St_init_66 : decode m_St_init.2.1 66 = .ok (.iconst 4, 1) ∧ 66 + 1 = 67 := ⟨by decide +kernel, rfl⟩
theorem d_St_init_67 : decode m_St_init.2.1 67 = .ok (.newarray .int, 2) ∧ 67 + 2 = 69 := ⟨by decide +kernel, rfl⟩
theorem d_St_init_69 : decode m_St_init.2.1 69 = .ok (.putfield 44, 3) ∧ 69 + 3 = 72 := ⟨by decide +kernel, rfl⟩
theorem d_St_init_72 : decode m_St_init.2.1 72 = .ok (.aload_n 0, 1) ∧ 72 + 1 = 73 := ⟨by decide +kernel, rfl⟩
theorem d_St_init_73 : decode m_St_init.2.1 73 = .ok (.bipush 16, 2) ∧ 73 + 2 = 75 ∧ (Int8.ofInt 16).toInt32 = Int32.ofInt 16 := ⟨by decide +kernel, rfl, by decide +kernel⟩
theorem d_St_init_75 : decode m_St_init.2.1 75 = .ok (.newarray .int, 2) ∧ 75 + 2 = 77 := ⟨by decide +kernel, rfl⟩
theorem d_St_init_77 : decode m_St_init.2.1 77 = .ok (.putfield 47, 3) ∧ 77 + 3 = 80 := ⟨by decide +kernel, rfl⟩
theorem d_St_init_80 : decode m_St_init.2.1 80 = .ok (.iconst 0, 1) ∧ 80 + 1 = 81 := ⟨by decide +kernel, rfl⟩
theorem d_St_init_81 : decode m_St_init.2.1 81 = .ok (.istore_n 1, 1) ∧ 81 + 1 = 82 := ⟨by decide +kernel, rfl⟩
theorem d_St_init_82 : decode m_St_init.2.1 82 = .ok (.iload_n 1, 1) ∧ 82 + 1 = 83 := ⟨by decide +kernel, rfl⟩
theorem d_St_init_83 : decode m_St_init.2.1 83 = .ok (.bipush 12, 2) ∧ 83 + 2 = 85 ∧ (Int8.ofInt 12).toInt32 = Int32.ofInt 12 := ⟨by decide +kernel, rfl, by decide +kernel⟩
theorem d_St_init_85 : decode m_St_init.2.1 85 = .ok (.if_icmp .ge 22, 3) ∧ 85 + 3 = 88 ∧ (((85 : Nat) : Int) + (22) = ((107 : Nat) : Int)) := ⟨by decide +kernel, rfl, by decide⟩
theorem d_St_init_88 : decode m_St_init.2.1 88 = .ok (.aload_n 0, 1) ∧ 88 + 1 = 89 := ⟨by decide +kernel, rfl⟩
theorem d_St_init_89 : decode m_St_init.2.1 89 = .ok (.getfield 11, 3) ∧ 89 + 3 = 92 := ⟨by decide +kernel, rfl⟩
theorem d_St_init_92 : decode m_St_init.2.1 92 = .ok (.iload_n 1, 1) ∧ 92 + 1 = 93 := ⟨by decide +kernel, rfl⟩
theorem d_St_init_93 : decode m_St_init.2.1 93 = .ok (.new 9, 3) ∧ 93 + 3 = 96 := ⟨by decide +kernel, rfl⟩
theorem d_St_init_96 : decode m_St_init.2.1 96 = .ok (.dup, 1) ∧ 96 + 1 = 97 := ⟨by decide +kernel, rfl⟩
theorem d_St_init_97 : decode m_St_init.2.1 97 = .ok (.invokespecial 50, 3) ∧ 97 + 3 = 100 := ⟨by decide +kernel, rfl⟩
theorem d_St_init_100 : decode m_St_init.2.1 100 = .ok (.aastore, 1) ∧ 100 + 1 = 101 := ⟨by decide +kernel, rfl⟩
theorem d_St_init_101 : decode m_St_init.2.1 101 = .ok (.iinc 1 1, 3) ∧ 101 + 3 = 104 := ⟨by decide +kernel, rfl⟩
theorem d_St_init_104 : decode m_St_init.2.1 104 = .ok (.goto (-22), 3) ∧ (((104 : Nat) : Int) + (-22) = ((82 : Nat) : Int)) := ⟨by decide +kernel, by decide⟩
theorem d_St_init_107 : decode m_St_init.2.1 107 = .ok (.return_, 1) := by decide +kernel
theorem d_St_build_0 : decode m_St_build.2.1 0 = .ok (.aload_n 0, 1) ∧ 0 + 1 = 1 := ⟨by decide +kernel, rfl⟩
theorem d_St_build_1 : decode m_St_build.2.1 1 = .ok (.aload_n 1, 1) ∧ 1 + 1 = 2 := ⟨by decide +kernel, rfl⟩
theorem d_St_build_2 : decode m_St_build.2.1 2 = .ok (.invokevirtual 51, 3) ∧ 2 + 3 = 5 := ⟨by decide +kernel, rfl⟩
theorem d_St_build_5 : decode m_St_build.2.1 5 = .ok (.aload_n 0, 1) ∧ 5 + 1 = 6 := ⟨by decide +kernel, rfl⟩
theorem d_St_build_6 : decode m_St_build.2.1 6 = .ok (.iconst 0, 1) ∧ 6 + 1 = 7 := ⟨by decide +kernel, rfl⟩
theorem d_St_build_7 : decode m_St_build.2.1 7 = .ok (.putfield 17, 3) ∧ 7 + 3 = 10 := ⟨by decide +kernel, rfl⟩
theorem d_St_build_10 : decode m_St_build.2.1 10 = .ok (.iconst 0, 1) ∧ 10 + 1 = 11 := ⟨by decide +kernel, rfl⟩
theorem d_St_build_11 : decode m_St_build.2.1 11 = .ok (.istore_n 2, 1) ∧ 11 + 1 = 12 := ⟨by decide +kernel, rfl⟩
theorem d_St_build_12 : decode m_St_build.2.1 12 = .ok (.iload_n 2, 1) ∧ 12 + 1 = 13 := ⟨by decide +kernel, rfl⟩
theorem d_St_build_13 : decode m_St_build.2.1 13 = .ok (.aload_n 0, 1) ∧ 13 + 1 = 14 := ⟨by decide +kernel, rfl⟩
theorem d_St_build_14 : decode m_St_build.2.1 14 = .ok (.getfield 24, 3) ∧ 14 + 3 = 17 := ⟨by decide +kernel, rfl⟩
theorem d_St_build_17 : decode m_St_build.2.1 17 = .ok (.if_icmp .ge 51, 3) ∧ 17 + 3 = 20 ∧ (((17 : Nat) : Int) + (51) = ((68 : Nat) : Int)) := ⟨by decide +kernel, rfl, by decide⟩
theorem d_St_build_20 : decode m_St_build.2.1 20 = .ok (.aload_n 0, 1) ∧ 20 + 1 = 21 := ⟨by decide +kernel, rfl⟩
theorem d_St_build_21 : decode m_St_build.2.1 21 = .ok (.getfield 34, 3) ∧ 21 + 3 = 24 := ⟨by decide +kernel, rfl⟩
theorem d_St_build_24 : decode m_St_build.2.1 24 = .ok (.iload_n 2, 1) ∧ 24 + 1 = 25 := ⟨by decide +kernel, rfl⟩
theorem d_St_build_25 : decode m_St_build.2.1 25 = .ok (.baload, 1) ∧ 25 + 1 = 26 := ⟨by decide +kernel, rfl⟩
theorem d_St_build_26 : decode m_St_build.2.1 26 = .ok (.ifCond .eq 17, 3) ∧ 26 + 3 = 29 ∧ (((26 : Nat) : Int) + (17) = ((43 : Nat) : Int)) := ⟨by decide +kernel, rfl, by decide⟩
theorem d_St_build_29 : decode m_St_build.2.1 29 = .ok (.aload_n 0, 1) ∧ 29 + 1 = 30 := ⟨by decide +kernel, rfl⟩
theorem d_St_build_30 : decode m_St_build.2.1 30 = .ok (.aload_n 0, 1) ∧ 30 + 1 = 31 := ⟨by decide +kernel, rfl⟩
theorem d_St_build_31 : decode m_St_build.2.1 31 = .ok (.getfield 44, 3) ∧ 31 + 3 = 34 := ⟨by decide +kernel, rfl⟩
theorem d_St_build_34 : decode m_St_build.2.1 34 = .ok (.iload_n 2, 1) ∧ 34 + 1 = 35 := ⟨by decide +kernel, rfl⟩
theorem d_St_build_35 : decode m_St_build.2.1 35 = .ok (.iaload, 1) ∧ 35 + 1 = 36 := ⟨by decide +kernel, rfl⟩
theorem d_St_build_36 : decode m_St_build.2.1 36 = .ok (.i2l, 1) ∧ 36 + 1 = 37 := ⟨by decide +kernel, rfl⟩
theorem d_St_build_37 : decode m_St_build.2.1 37 = .ok (.lconst 0, 1) ∧ 37 + 1 = 38 := ⟨by decide +kernel, rfl⟩
theorem d_St_build_38 : decode m_St_build.2.1 38 = .ok (.lconst 0, 1) ∧ 38 + 1 = 39 := ⟨by decide +kernel, rfl⟩
theorem d_St_build_39 : decode m_St_build.2.1 39 = .ok (.lconst 1, 1) ∧ 39 + 1 = 40 := ⟨by decide +kernel, rfl⟩
theorem d_St_build_40 : decode m_St_build.2.1 40 = .ok (.invokevirtual 55, 3) ∧ 40 + 3 = 43 := ⟨by decide +kernel, rfl⟩
theorem d_St_build_43 : decode m_St_build.2.1 43 = .ok (.iconst 0, 1) ∧ 43 + 1 = 44 := ⟨by decide +kernel, rfl⟩
theorem d_St_build_44 : decode m_St_build.2.1 44 = .ok (.istore_n 3, 1) ∧ 44 + 1 = 45 := ⟨by decide +kernel, rfl⟩
theorem d_St_build_45 : decode m_St_build.2.1 45 = .ok (.iload_n 3, 1) ∧ 45 + 1 = 46 := ⟨by decide +kernel, rfl⟩
theorem d_St_build_46 : decode m_St_build.2.1 46 = .ok (.iload_n 2, 1) ∧ 46 + 1 = 47 := ⟨by decide +kernel, rfl⟩
theorem d_St_build_47 : decode m_St_build.2.1 47 = .ok (.if_icmp .ge 15, 3) ∧ 47 + 3 = 50 ∧ (((47 : Nat) : Int) + (15) = ((62 : Nat) : Int)) := ⟨by decide +kernel, rfl, by decide⟩
theorem d_St_build_50 : decode m_St_build.2.1 50 = .ok (.aload_n 0, 1) ∧ 50 + 1 = 51 := ⟨by decide +kernel, rfl⟩
theorem d_St_build_51 : decode m_St_build.2.1 51 = .ok (.iload_n 2, 1) ∧ 51 + 1 = 52 := ⟨by decide +kernel, rfl⟩
theorem d_St_build_52 : decode m_St_build.2.1 52 = .ok (.iload_n 3, 1) ∧ 52 + 1 = 53 := ⟨by decide +kernel, rfl⟩
theorem d_St_build_53 : decode m_St_build.2.1 53 = .ok (.invokevirtual 59, 3) ∧ 53 + 3 = 56 := ⟨by decide +kernel, rfl⟩
theorem d_St_build_56 : decode m_St_build.2.1 56 = .ok (.iinc 3 1, 3) ∧ 56 + 3 = 59 := ⟨by decide +kernel, rfl⟩
theorem d_St_build_59 : decode m_St_build.2.1 59 = .ok (.goto (-14), 3) ∧ (((59 : Nat) : Int) + (-14) = ((45 : Nat) : Int)) := ⟨by decide +kernel, by decide⟩
theorem d_St_build_62 : decode m_St_build.2.1 62 = .ok (.iinc 2 1, 3) ∧ 62 + 3 = 65 := ⟨by decide +kernel, rfl⟩
theorem d_St_build_65 : decode m_St_build.2.1 65 = .ok (.goto (-53), 3) ∧ (((65 : Nat) : Int) + (-53) = ((12 : Nat) : Int)) := ⟨by decide +kernel, by decide⟩
theorem d_St_build_68 : decode m_St_build.2.1 68 = .ok (.aload_n 0, 1) ∧ 68 + 1 = 69 := ⟨by decide +kernel, rfl⟩
theorem d_St_build_69 : decode m_St_build.2.1 69 = .ok (.iconst 2, 1) ∧ 69 + 1 = 70 := ⟨by decide +kernel, rfl⟩
theorem d_St_build_70 : decode m_St_build.2.1 70 = .ok (.aload_n 0, 1) ∧ 70 + 1 = 71 := ⟨by decide +kernel, rfl⟩
theorem d_St_build_71 : decode m_St_build.2.1 71 = .ok (.getfield 17, 3) ∧ 71 + 3 = 74 := ⟨by decide +kernel, rfl⟩
theorem d_St_build_74 : decode m_St_build.2.1 74 = .ok (.imul, 1) ∧ 74 + 1 = 75 := ⟨by decide +kernel, rfl⟩
theorem d_St_build_75 : decode m_St_build.2.1 75 = .ok (.iconst 1, 1) ∧ 75 + 1 = 76 := ⟨by decide +kernel, rfl⟩
theorem d_St_build_76 : decode m_St_build.2.1 76 = .ok (.iadd, 1) ∧ 76 + 1 = 77 := ⟨by decide +kernel, rfl⟩
theorem d_St_build_77 : decode m_St_build.2.1 77 = .ok (.putfield 21, 3) ∧ 77 + 3 = 80 := ⟨by decide +kernel, rfl⟩
theorem d_St_build_80 : decode m_St_build.2.1 80 = .ok (.aload_n 0, 1) ∧ 80 + 1 = 81 := ⟨by decide +kernel, rfl⟩
theorem d_St_build_81 : decode m_St_build.2.1 81 = .ok (.invokevirtual 63, 3) ∧ 81 + 3 = 84 := ⟨by decide +kernel, rfl⟩
theorem d_St_build_84 : decode m_St_build.2.1 84 = .ok (.aload_n 0, 1) ∧ 84 + 1 = 85 := ⟨by decide +kernel, rfl⟩
theorem d_St_build_85 : decode m_St_build.2.1 85 = .ok (.iconst 0, 1) ∧ 85 + 1 = 86 := ⟨by decide +kernel, rfl⟩
theorem d_St_build_86 : decode m_St_build.2.1 86 = .ok (.invokevirtual 66, 3) ∧ 86 + 3 = 89 := ⟨by decide +kernel, rfl⟩
theorem d_St_build_89 : decode m_St_build.2.1 89 = .ok (.iconst 0, 1) ∧ 89 + 1 = 90 := ⟨by decide +kernel, rfl⟩
theorem d_St_build_90 : decode m_St_build.2.1 90 = .ok (.istore_n 2, 1) ∧ 90 + 1 = 91 := ⟨by decide +kernel, rfl⟩
theorem d_St_build_91 : decode m_St_build.2.1 91 = .ok (.iload_n 2, 1) ∧ 91 + 1 = 92 := ⟨by decide +kernel, rfl⟩
theorem d_St_build_92 : decode m_St_build.2.1 92 = .ok (.aload_n 0, 1) ∧ 92 + 1 = 93 := ⟨by decide +kernel, rfl⟩
theorem d_St_build_93 : decode m_St_build.2.1 93 = .ok (.getfield 17, 3) ∧ 93 + 3 = 96 := ⟨by decide +kernel, rfl⟩
theorem d_St_build_96 : decode m_St_build.2.1 96 = .ok (.if_icmp .ge 47, 3) ∧ 96 + 3 = 99 ∧ (((96 : Nat) : Int) + (47) = ((143 : Nat) : Int)) := ⟨by decide +kernel, rfl, by decide⟩
theorem d_St_build_99 : decode m_St_build.2.1 99 = .ok (.aload_n 0, 1) ∧ 99 + 1 = 100 := ⟨by decide +kernel, rfl⟩
theorem d_St_build_100 : decode m_St_build.2.1 100 = .ok (.aload_n 0, 1) ∧ 100 + 1 = 101 := ⟨by decide +kernel, rfl⟩
theorem d_St_build_101 : decode m_St_build.2.1 101 = .ok (.getfield 11, 3) ∧ 101 + 3 = 104 := ⟨by decide +kernel, rfl⟩
theorem d_St_build_104 : decode m_St_build.2.1 104 = .ok (.iload_n 2, 1) ∧ 104 + 1 = 105 := ⟨by decide +kernel, rfl⟩
theorem d_St_build_105 : decode m_St_build.2.1 105 = .ok (.aaload, 1) ∧ 105 + 1 = 106 := ⟨by decide +kernel, rfl⟩
theorem d_St_build_106 : decode m_St_build.2.1 106 = .ok (.invokevirtual 70, 3) ∧ 106 + 3 = 109 := ⟨by decide +kernel, rfl⟩
theorem d_St_build_109 : decode m_St_build.2.1 109 = .ok (.aload_n 0, 1) ∧ 109 + 1 = 110 := ⟨by decide +kernel, rfl⟩
theorem d_St_build_110 : decode m_St_build.2.1 110 = .ok (.iconst 2, 1) ∧ 110 + 1 = 111 := ⟨by decide +kernel, rfl⟩
theorem d_St_build_111 : decode m_St_build.2.1 111 = .ok (.iload_n 2, 1) ∧ 111 + 1 = 112 := ⟨by decide +kernel, rfl⟩
theorem d_St_build_112 : decode m_St_build.2.1 112 = .ok (.imul, 1) ∧ 112 + 1 = 113 := ⟨by decide +kernel, rfl⟩
theorem d_St_build_113 : decode m_St_build.2.1 113 = .ok (.iconst 1, 1) ∧ 113 + 1 = 114 := ⟨by decide +kernel, rfl⟩
theorem d_St_build_114 : decode m_St_build.2.1 114 = .ok (.iadd, 1) ∧ 114 + 1 = 115 := ⟨by decide +kernel, rfl⟩
theorem d_St_build_115 : decode m_St_build.2.1 115 = .ok (.invokevirtual 66, 3) ∧ 115 + 3 = 118 := ⟨by decide +kernel, rfl⟩
theorem d_St_build_118 : decode m_St_build.2.1 118 = .ok (.aload_n 0, 1) ∧ 118 + 1 = 119 := ⟨by decide +kernel, rfl⟩
theorem d_St_build_119 : decode m_St_build.2.1 119 = .ok (.aload_n 0, 1) ∧ 119 + 1 = 120 := ⟨by decide +kernel, rfl⟩
theorem d_St_build_120 : decode m_St_build.2.1 120 = .ok (.getfield 11, 3) ∧ 120 + 3 = 123 := ⟨by decide +kernel, rfl⟩
theorem d_St_build_123 : decode m_St_build.2.1 123 = .ok (.iload_n 2, 1) ∧ 123 + 1 = 124 := ⟨by decide +kernel, rfl⟩
theorem d_St_build_124 : decode m_St_build.2.1 124 = .ok (.aaload, 1) ∧ 124 + 1 = 125 := ⟨by decide +kernel, rfl⟩
theorem d_St_build_125 : decode m_St_build.2.1 125 = .ok (.invokevirtual 74, 3) ∧ 125 + 3 = 128 := ⟨by decide +kernel, rfl⟩
theorem d_St_build_128 : decode m_St_build.2.1 128 = .ok (.aload_n 0, 1) ∧ 128 + 1 = 129 := ⟨by decide +kernel, rfl⟩
theorem d_St_build_129 : decode m_St_build.2.1 129 = .ok (.iconst 2, 1) ∧ 129 + 1 = 130 := ⟨by decide +kernel, rfl⟩
theorem d_St_build_130 : decode m_St_build.2.1 130 = .ok (.iload_n 2, 1) ∧ 130 + 1 = 131 := ⟨by decide +kernel, rfl⟩
theorem d_St_build_131 : decode m_St_build.2.1 131 = .ok (.imul, 1) ∧ 131 + 1 = 132 := ⟨by decide +kernel, rfl⟩
theorem d_St_build_132 : decode m_St_build.2.1 132 = .ok (.iconst 2, 1) ∧ 132 + 1 = 133 := ⟨by decide +kernel, rfl⟩
theorem d_St_build_133 : decode m_St_build.2.1 133 = .ok (.iadd, 1) ∧ 133 + 1 = 134 := ⟨by decide +kernel, rfl⟩
theorem d_St_build_134 : decode m_St_build.2.1 134 = .ok (.invokevirtual 66, 3) ∧ 134 + 3 = 137 := ⟨by decide +kernel, rfl⟩
theorem d_St_build_137 : decode m_St_build.2.1 137 = .ok (.iinc 2 1, 3) ∧ 137 + 3 = 140 := ⟨by decide +kernel, rfl⟩
theorem d_St_build_140 : decode m_St_build.2.1 140 = .ok (.goto (-49), 3) ∧ (((140 : Nat) : Int) + (-49) = ((91 : Nat) : Int)) := ⟨by decide +kernel, by decide⟩
theorem d_St_build_143 : decode m_St_build.2.1 143 = .ok (.aload_n 0, 1) ∧ 143 + 1 = 144 := ⟨by decide +kernel, rfl⟩
theorem d_St_build_144 : decode m_St_build.2.1 144 = .ok (.invokevirtual 77, 3) ∧ 144 + 3 = 147 := ⟨by decide +kernel, rfl⟩
theorem d_St_build_147 : decode m_St_build.2.1 147 = .ok (.return_, 1) := by decide +kernel
theorem d_St_readCurves_0 : decode m_St_readCurves.2.1 0 = .ok (.aload_n 0, 1) ∧ 0 + 1 = 1 := ⟨by decide +kernel, rfl⟩
theorem d_St_readCurves_1 : decode m_St_readCurves.2.1 1 = .ok (.aload_n 1, 1) ∧ 1 + 1 = 2 := ⟨by decide +kernel, rfl⟩
theorem d_St_readCurves_2 : decode m_St_readCurves.2.1 2 = .ok (.getfield 80, 3) ∧ 2 + 3 = 5 := ⟨by decide +kernel, rfl⟩
theorem d_St_readCurves_5 : decode m_St_readCurves.2.1 5 = .ok (.putfield 24, 3) ∧ 5 + 3 = 8 := ⟨by decide +kernel, rfl⟩
theorem d_St_readCurves_8 : decode m_St_readCurves.2.1 8 = .ok (.iconst 0, 1) ∧ 8 + 1 = 9 := ⟨by decide +kernel, rfl⟩
theorem d_St_readCurves_9 : decode m_St_readCurves.2.1 9 = .ok (.istore_n 2, 1) ∧ 9 + 1 = 10 := ⟨by decide +kernel, rfl⟩
theorem d_St_readCurves_10 : decode m_St_readCurves.2.1 10 = .ok (.iload_n 2, 1) ∧ 10 + 1 = 11 := ⟨by decide +kernel, rfl⟩
theorem d_St_readCurves_11 : decode m_St_readCurves.2.1 11 = .ok (.aload_n 0, 1) ∧ 11 + 1 = 12 := ⟨by decide +kernel, rfl⟩
theorem d_St_readCurves_12 : decode m_St_readCurves.2.1 12 = .ok (.getfield 24, 3) ∧ 12 + 3 = 15 := ⟨by decide +kernel, rfl⟩
theorem d_St_readCurves_15 : decode m_St_readCurves.2.1 15 = .ok (.if_icmp .ge 63, 3) ∧ 15 + 3 = 18 ∧ (((15 : Nat) : Int) + (63) = ((78 : Nat) : Int)) := ⟨by decide +kernel, rfl, by decide⟩
theorem d_St_readCurves_18 : decode m_St_readCurves.2.1 18 = .ok (.aload_n 1, 1) ∧ 18 + 1 = 19 := ⟨by decide +kernel, rfl⟩
theorem d_St_readCurves_19 : decode m_St_readCurves.2.1 19 = .ok (.getfield 83, 3) ∧ 19 + 3 = 22 := ⟨by decide +kernel, rfl⟩
theorem d_St_readCurves_22 : decode m_St_readCurves.2.1 22 = .ok (.iload_n 2, 1) ∧ 22 + 1 = 23 := ⟨by decide +kernel, rfl⟩
theorem d_St_readCurves_23 : decode m_St_readCurves.2.1 23 = .ok (.aaload, 1) ∧ 23 + 1 = 24 := ⟨by decide +kernel, rfl⟩
theorem d_St_readCurves_24 : decode m_St_readCurves.2.1 24 = .ok (.astore_n 3, 1) ∧ 24 + 1 = 25 := ⟨by decide +kernel, rfl⟩
theorem d_St_readCurves_25 : decode m_St_readCurves.2.1 25 = .ok (.aload_n 0, 1) ∧ 25 + 1 = 26 := ⟨by decide +kernel, rfl⟩
theorem d_St_readCurves_26 : decode m_St_readCurves.2.1 26 = .ok (.getfield 34, 3) ∧ 26 + 3 = 29 := ⟨by decide +kernel, rfl⟩
theorem d_St_readCurves_29 : decode m_St_readCurves.2.1 29 = .ok (.iload_n 2, 1) ∧ 29 + 1 = 30 := ⟨by decide +kernel, rfl⟩
theorem d_St_readCurves_30 : decode m_St_readCurves.2.1 30 = .ok (.aload_n 3, 1) ∧ 30 + 1 = 31 := ⟨by decide +kernel, rfl⟩
theorem d_St_readCurves_31 : decode m_St_readCurves.2.1 31 = .ok (.invokevirtual 87, 3) ∧ 31 + 3 = 34 := ⟨by decide +kernel, rfl⟩
theorem d_St_readCurves_34 : decode m_St_readCurves.2.1 34 = .ok (.bastore, 1) ∧ 34 + 1 = 35 := ⟨by decide +kernel, rfl⟩
theorem d_St_readCurves_35 : decode m_St_readCurves.2.1 35 = .ok (.aload_n 0, 1) ∧ 35 + 1 = 36 := ⟨by decide +kernel, rfl⟩
theorem d_St_readCurves_36 : decode m_St_readCurves.2.1 36 = .ok (.getfield 38, 3) ∧ 36 + 3 = 39 := ⟨by decide +kernel, rfl⟩
theorem d_St_readCurves_39 : decode m_St_readCurves.2.1 39 = .ok (.iload_n 2, 1) ∧ 39 + 1 = 40 := ⟨by decide +kernel, rfl⟩
theorem d_St_readCurves_40 : decode m_St_readCurves.2.1 40 = .ok (.aload_n 3, 1) ∧ 40 + 1 = 41 := ⟨by decide +kernel, rfl⟩
theorem d_St_readCurves_41 : decode m_St_readCurves.2.1 41 = .ok (.getfield 93, 3) ∧ 41 + 3 = 44 := ⟨by decide +kernel, rfl⟩
theorem d_St_readCurves_44 : decode m_St_readCurves.2.1 44 = .ok (.invokestatic 96, 3) ∧ 44 + 3 = 47 := ⟨by decide +kernel, rfl⟩
theorem d_St_readCurves_47 : decode m_St_readCurves.2.1 47 = .ok (.iastore, 1) ∧ 47 + 1 = 48 := ⟨by decide +kernel, rfl⟩
theorem d_St_readCurves_48 : decode m_St_readCurves.2.1 48 = .ok (.aload_n 0, 1) ∧ 48 + 1 = 49 := ⟨by decide +kernel, rfl⟩
theorem d_St_readCurves_49 : decode m_St_readCurves.2.1 49 = .ok (.getfield 41, 3) ∧ 49 + 3 = 52 := ⟨by decide +kernel, rfl⟩
theorem d_St_readCurves_52 : decode m_St_readCurves.2.1 52 = .ok (.iload_n 2, 1) ∧ 52 + 1 = 53 := ⟨by decide +kernel, rfl⟩
theorem d_St_readCurves_53 : decode m_St_readCurves.2.1 53 = .ok (.aload_n 3, 1) ∧ 53 + 1 = 54 := ⟨by decide +kernel, rfl⟩
theorem d_St_readCurves_54 : decode m_St_readCurves.2.1 54 = .ok (.aload_n 3, 1) ∧ 54 + 1 = 55 := ⟨by decide +kernel, rfl⟩
theorem d_St_readCurves_55 : decode m_St_readCurves.2.1 55 = .ok (.getfield 93, 3) ∧ 55 + 3 = 58 := ⟨by decide +kernel, rfl⟩
theorem d_St_readCurves_58 : decode m_St_readCurves.2.1 58 = .ok (.invokevirtual 100, 3) ∧ 58 + 3 = 61 := ⟨by decide +kernel, rfl⟩
theorem d_St_readCurves_61 : decode m_St_readCurves.2.1 61 = .ok (.iastore, 1) ∧ 61 + 1 = 62 := ⟨by decide +kernel, rfl⟩
theorem d_St_readCurves_62 : decode m_St_readCurves.2.1 62 = .ok (.aload_n 0, 1) ∧ 62 + 1 = 63 := ⟨by decide +kernel, rfl⟩
theorem d_St_readCurves_63 : decode m_St_readCurves.2.1 63 = .ok (.getfield 44, 3) ∧ 63 + 3 = 66 := ⟨by decide +kernel, rfl⟩
theorem d_St_readCurves_66 : decode m_St_readCurves.2.1 66 = .ok (.iload_n 2, 1) ∧ 66 + 1 = 67 := ⟨by decide +kernel, rfl⟩
theorem d_St_readCurves_67 : decode m_St_readCurves.2.1 67 = .ok (.aload_n 3, 1) ∧ 67 + 1 = 68 := ⟨by decide +kernel, rfl⟩
theorem d_St_readCurves_68 : decode m_St_readCurves.2.1 68 = .ok (.getfield 103, 3) ∧ 68 + 3 = 71 := ⟨by decide +kernel, rfl⟩
theorem d_St_readCurves_71 : decode m_St_readCurves.2.1 71 = .ok (.iastore, 1) ∧ 71 + 1 = 72 := ⟨by decide +kernel, rfl⟩
theorem d_St_readCurves_72 : decode m_St_readCurves.2.1 72 = .ok (.iinc 2 1, 3) ∧ 72 + 3 = 75 := ⟨by decide +kernel, rfl⟩
theorem d_St_readCurves_75 : decode m_St_readCurves.2.1 75 = .ok (.goto (-65), 3) ∧ (((75 : Nat) : Int) + (-65) = ((10 : Nat) : Int)) := ⟨by decide +kernel, by decide⟩
theorem d_St_readCurves_78 : decode m_St_readCurves.2.1 78 = .ok (.return_, 1) := by decide +kernel
theorem d_St_meet_0 : decode m_St_meet.2.1 0 = .ok (.aload_n 0, 1) ∧ 0 + 1 = 1 := ⟨by decide +kernel, rfl⟩
theorem d_St_meet_1 : decode m_St_meet.2.1 1 = .ok (.getfield 34, 3) ∧ 1 + 3 = 4 := ⟨by decide +kernel, rfl⟩
theorem d_St_meet_4 : decode m_St_meet.2.1 4 = .ok (.iload_n 1, 1) ∧ 4 + 1 = 5 := ⟨by decide +kernel, rfl⟩
theorem d_St_meet_5 : decode m_St_meet.2.1 5 = .ok (.baload, 1) ∧ 5 + 1 = 6 := ⟨by decide +kernel, rfl⟩
theorem d_St_meet_6 : decode m_St_meet.2.1 6 = .ok (.ifCond .ne 12, 3) ∧ 6 + 3 = 9 ∧ (((6 : Nat) : Int) + (12) = ((18 : Nat) : Int)) := ⟨by decide +kernel, rfl, by decide⟩
theorem d_St_meet_9 : decode m_St_meet.2.1 9 = .ok (.aload_n 0, 1) ∧ 9 + 1 = 10 := ⟨by decide +kernel, rfl⟩
theorem d_St_meet_10 : decode m_St_meet.2.1 10 = .ok (.getfield 34, 3) ∧ 10 + 3 = 13 := ⟨by decide +kernel, rfl⟩
theorem d_St_meet_13 : decode m_St_meet.2.1 13 = .ok (.iload_n 2, 1) ∧ 13 + 1 = 14 := ⟨by decide +kernel, rfl⟩
theorem d_St_meet_14 : decode m_St_meet.2.1 14 = .ok (.baload, 1) ∧ 14 + 1 = 15 := ⟨by decide +kernel, rfl⟩
theorem d_St_meet_15 : decode m_St_meet.2.1 15 = .ok (.ifCond .eq 4, 3) ∧ 15 + 3 = 18 ∧ (((15 : Nat) : Int) + (4) = ((19 : Nat) : Int)) := ⟨by decide +kernel, rfl, by decide⟩
theorem d_St_meet_18 : decode m_St_meet.2.1 18 = .ok (.return_, 1) := by decide +kernel
theorem d_St_meet_19 : decode m_St_meet.2.1 19 = .ok (.aload_n 0, 1) ∧ 19 + 1 = 20 := ⟨by decide +kernel, rfl⟩
theorem d_St_meet_20 : decode m_St_meet.2.1 20 = .ok (.getfield 38, 3) ∧ 20 + 3 = 23 := ⟨by decide +kernel, rfl⟩
theorem d_St_meet_23 : decode m_St_meet.2.1 23 = .ok (.iload_n 1, 1) ∧ 23 + 1 = 24 := ⟨by decide +kernel, rfl⟩
theorem d_St_meet_24 : decode m_St_meet.2.1 24 = .ok (.iaload, 1) ∧ 24 + 1 = 25 := ⟨by decide +kernel, rfl⟩
theorem d_St_meet_25 : decode m_St_meet.2.1 25 = .ok (.aload_n 0, 1) ∧ 25 + 1 = 26 := ⟨by decide +kernel, rfl⟩
theorem d_St_meet_26 : decode m_St_meet.2.1 26 = .ok (.getfield 38, 3) ∧ 26 + 3 = 29 := ⟨by decide +kernel, rfl⟩
theorem d_St_meet_29 : decode m_St_meet.2.1 29 = .ok (.iload_n 2, 1) ∧ 29 + 1 = 30 := ⟨by decide +kernel, rfl⟩
theorem d_St_meet_30 : decode m_St_meet.2.1 30 = .ok (.iaload, 1) ∧ 30 + 1 = 31 := ⟨by decide +kernel, rfl⟩
theorem d_St_meet_31 : decode m_St_meet.2.1 31 = .ok (.isub, 1) ∧ 31 + 1 = 32 := ⟨by decide +kernel, rfl⟩
theorem d_St_meet_32 : decode m_St_meet.2.1 32 = .ok (.i2l, 1) ∧ 32 + 1 = 33 := ⟨by decide +kernel, rfl⟩
theorem d_St_meet_33 : decode m_St_meet.2.1 33 = .ok (.lstore_n 3, 1) ∧ 33 + 1 = 34 := ⟨by decide +kernel, rfl⟩
theorem d_St_meet_34 : decode m_St_meet.2.1 34 = .ok (.aload_n 0, 1) ∧ 34 + 1 = 35 := ⟨by decide +kernel, rfl⟩
theorem d_St_meet_35 : decode m_St_meet.2.1 35 = .ok (.getfield 41, 3) ∧ 35 + 3 = 38 := ⟨by decide +kernel, rfl⟩
theorem d_St_meet_38 : decode m_St_meet.2.1 38 = .ok (.iload_n 1, 1) ∧ 38 + 1 = 39 := ⟨by decide +kernel, rfl⟩
theorem d_St_meet_39 : decode m_St_meet.2.1 39 = .ok (.iaload, 1) ∧ 39 + 1 = 40 := ⟨by decide +kernel, rfl⟩
theorem d_St_meet_40 : decode m_St_meet.2.1 40 = .ok (.aload_n 0, 1) ∧ 40 + 1 = 41 := ⟨by decide +kernel, rfl⟩
theorem d_St_meet_41 : decode m_St_meet.2.1 41 = .ok (.getfield 41, 3) ∧ 41 + 3 = 44 := ⟨by decide +kernel, rfl⟩
theorem d_St_meet_44 : decode m_St_meet.2.1 44 = .ok (.iload_n 2, 1) ∧ 44 + 1 = 45 := ⟨by decide +kernel, rfl⟩
theorem d_St_meet_45 : decode m_St_meet.2.1 45 = .ok (.iaload, 1) ∧ 45 + 1 = 46 := ⟨by decide +kernel, rfl⟩
theorem d_St_meet_46 : decode m_St_meet.2.1 46 = .ok (.isub, 1) ∧ 46 + 1 = 47 := ⟨by decide +kernel, rfl⟩
theorem d_St_meet_47 : decode m_St_meet.2.1 47 = .ok (.i2l, 1) ∧ 47 + 1 = 48 := ⟨by decide +kernel, rfl⟩
theorem d_St_meet_48 : decode m_St_meet.2.1 48 = .ok (.lstore 5, 2) ∧ 48 + 2 = 50 := ⟨by decide +kernel, rfl⟩
theorem d_St_meet_50 : decode m_St_meet.2.1 50 = .ok (.aload_n 0, 1) ∧ 50 + 1 = 51 := ⟨by decide +kernel, rfl⟩
theorem d_St_meet_51 : decode m_St_meet.2.1 51 = .ok (.getfield 44, 3) ∧ 51 + 3 = 54 := ⟨by decide +kernel, rfl⟩
theorem d_St_meet_54 : decode m_St_meet.2.1 54 = .ok (.iload_n 1, 1) ∧ 54 + 1 = 55 := ⟨by decide +kernel, rfl⟩
theorem d_St_meet_55 : decode m_St_meet.2.1 55 = .ok (.iaload, 1) ∧ 55 + 1 = 56 := ⟨by decide +kernel, rfl⟩
theorem d_St_meet_56 : decode m_St_meet.2.1 56 = .ok (.aload_n 0, 1) ∧ 56 + 1 = 57 := ⟨by decide +kernel, rfl⟩
theorem d_St_meet_57 : decode m_St_meet.2.1 57 = .ok (.getfield 44, 3) ∧ 57 + 3 = 60 := ⟨by decide +kernel, rfl⟩
theorem d_St_meet_60 : decode m_St_meet.2.1 60 = .ok (.iload_n 2, 1) ∧ 60 + 1 = 61 := ⟨by decide +kernel, rfl⟩
theorem d_St_meet_61 : decode m_St_meet.2.1 61 = .ok (.iaload, 1) ∧ 61 + 1 = 62 := ⟨by decide +kernel, rfl⟩
theorem d_St_meet_62 : decode m_St_meet.2.1 62 = .ok (.isub, 1) ∧ 62 + 1 = 63 := ⟨by decide +kernel, rfl⟩
theorem d_St_meet_63 : decode m_St_meet.2.1 63 = .ok (.i2l, 1) ∧ 63 + 1 = 64 := ⟨by decide +kernel, rfl⟩
theorem d_St_meet_64 : decode m_St_meet.2.1 64 = .ok (.lstore 7, 2) ∧ 64 + 2 = 66 := ⟨by decide +kernel, rfl⟩
theorem d_St_meet_66 : decode m_St_meet.2.1 66 = .ok (.lload_n 3, 1) ∧ 66 + 1 = 67 := ⟨by decide +kernel, rfl⟩
theorem d_St_meet_67 : decode m_St_meet.2.1 67 = .ok (.lconst 0, 1) ∧ 67 + 1 = 68 := ⟨by decide +kernel, rfl⟩
theorem d_St_meet_68 : decode m_St_meet.2.1 68 = .ok (.lcmp, 1) ∧ 68 + 1 = 69 := ⟨by decide +kernel, rfl⟩
theorem d_St_meet_69 : decode m_St_meet.2.1 69 = .ok (.ifCond .ne 15, 3) ∧ 69 + 3 = 72 ∧ (((69 : Nat) : Int) + (15) = ((84 : Nat) : Int)) := ⟨by decide +kernel, rfl, by decide⟩
theorem d_St_meet_72 : decode m_St_meet.2.1 72 = .ok (.aload_n 0, 1) ∧ 72 + 1 = 73 := ⟨by decide +kernel, rfl⟩
theorem d_St_meet_73 : decode m_St_meet.2.1 73 = .ok (.lload 7, 2) ∧ 73 + 2 = 75 := ⟨by decide +kernel, rfl⟩
theorem d_St_meet_75 : decode m_St_meet.2.1 75 = .ok (.lneg, 1) ∧ 75 + 1 = 76 := ⟨by decide +kernel, rfl⟩
theorem d_St_meet_76 : decode m_St_meet.2.1 76 = .ok (.lconst 0, 1) ∧ 76 + 1 = 77 := ⟨by decide +kernel, rfl⟩
theorem d_St_meet_77 : decode m_St_meet.2.1 77 = .ok (.lconst 0, 1) ∧ 77 + 1 = 78 := ⟨by decide +kernel, rfl⟩
theorem d_St_meet_78 : decode m_St_meet.2.1 78 = .ok (.lload 5, 2) ∧ 78 + 2 = 80 := ⟨by decide +kernel, rfl⟩
theorem d_St_meet_80 : decode m_St_meet.2.1 80 = .ok (.invokevirtual 55, 3) ∧ 80 + 3 = 83 := ⟨by decide +kernel, rfl⟩
theorem d_St_meet_83 : decode m_St_meet.2.1 83 = .ok (.return_, 1) := by decide +kernel
theorem d_St_meet_84 : decode m_St_meet.2.1 84 = .ok (.lload 5, 2) ∧ 84 + 2 = 86 := ⟨by decide +kernel, rfl⟩
theorem d_St_meet_86 : decode m_St_meet.2.1 86 = .ok (.lload 5, 2) ∧ 86 + 2 = 88 := ⟨by decide +kernel, rfl⟩
theorem d_St_meet_88 : decode m_St_meet.2.1 88 = .ok (.lmul, 1) ∧ 88 + 1 = 89 := ⟨by decide +kernel, rfl⟩
theorem d_St_meet_89 : decode m_St_meet.2.1 89 = .ok (.ldc2_w 106, 3) ∧ 89 + 3 = 92 := ⟨by decide +kernel, rfl⟩
theorem d_St_meet_92 : decode m_St_meet.2.1 92 = .ok (.lload_n 3, 1) ∧ 92 + 1 = 93 := ⟨by decide +kernel, rfl⟩
theorem d_St_meet_93 : decode m_St_meet.2.1 93 = .ok (.lmul, 1) ∧ 93 + 1 = 94 := ⟨by decide +kernel, rfl⟩
theorem d_St_meet_94 : decode m_St_meet.2.1 94 = .ok (.lload 7, 2) ∧ 94 + 2 = 96 := ⟨by decide +kernel, rfl⟩
theorem d_St_meet_96 : decode m_St_meet.2.1 96 = .ok (.lmul, 1) ∧ 96 + 1 = 97 := ⟨by decide +kernel, rfl⟩
theorem d_St_meet_97 : decode m_St_meet.2.1 97 = .ok (.lsub, 1) ∧ 97 + 1 = 98 := ⟨by decide +kernel, rfl⟩
theorem d_St_meet_98 : decode m_St_meet.2.1 98 = .ok (.lstore 9, 2) ∧ 98 + 2 = 100 := ⟨by decide +kernel, rfl⟩
theorem d_St_meet_100 : decode m_St_meet.2.1 100 = .ok (.lload 9, 2) ∧ 100 + 2 = 102 := ⟨by decide +kernel, rfl⟩
theorem d_St_meet_102 : decode m_St_meet.2.1 102 = .ok (.lconst 0, 1) ∧ 102 + 1 = 103 := ⟨by decide +kernel, rfl⟩
theorem d_St_meet_103 : decode m_St_meet.2.1 103 = .ok (.lcmp, 1) ∧ 103 + 1 = 104 := ⟨by decide +kernel, rfl⟩
theorem d_St_meet_104 : decode m_St_meet.2.1 104 = .ok (.ifCond .ge 4, 3) ∧ 104 + 3 = 107 ∧ (((104 : Nat) : Int) + (4) = ((108 : Nat) : Int)) := ⟨by decide +kernel, rfl, by decide⟩
theorem d_St_meet_107 : decode m_St_meet.2.1 107 = .ok (.return_, 1) := by decide +kernel
theorem d_St_meet_108 : decode m_St_meet.2.1 108 = .ok (.lload 9, 2) ∧ 108 + 2 = 110 := ⟨by decide +kernel, rfl⟩
theorem d_St_meet_110 : decode m_St_meet.2.1 110 = .ok (.invokestatic 108, 3) ∧ 110 + 3 = 113 := ⟨by decide +kernel, rfl⟩
theorem d_St_meet_113 : decode m_St_meet.2.1 113 = .ok (.lstore 11, 2) ∧ 113 + 2 = 115 := ⟨by decide +kernel, rfl⟩
theorem d_St_meet_115 : decode m_St_meet.2.1 115 = .ok (.lload 11, 2) ∧ 115 + 2 = 117 := ⟨by decide +kernel, rfl⟩
theorem d_St_meet_117 : decode m_St_meet.2.1 117 = .ok (.lload 11, 2) ∧ 117 + 2 = 119 := ⟨by decide +kernel, rfl⟩
theorem d_St_meet_119 : decode m_St_meet.2.1 119 = .ok (.lmul, 1) ∧ 119 + 1 = 120 := ⟨by decide +kernel, rfl⟩
theorem d_St_meet_120 : decode m_St_meet.2.1 120 = .ok (.lload 9, 2) ∧ 120 + 2 = 122 := ⟨by decide +kernel, rfl⟩
theorem d_St_meet_122 : decode m_St_meet.2.1 122 = .ok (.lcmp, 1) ∧ 122 + 1 = 123 := ⟨by decide +kernel, rfl⟩
theorem d_St_meet_123 : decode m_St_meet.2.1 123 = .ok (.ifCond .ne 40, 3) ∧ 123 + 3 = 126 ∧ (((123 : Nat) : Int) + (40) = ((163 : Nat) : Int)) := ⟨by decide +kernel, rfl, by decide⟩
theorem d_St_meet_126 : decode m_St_meet.2.1 126 = .ok (.aload_n 0, 1) ∧ 126 + 1 = 127 := ⟨by decide +kernel, rfl⟩
theorem d_St_meet_127 : decode m_St_meet.2.1 127 = .ok (.lload 5, 2) ∧ 127 + 2 = 129 := ⟨by decide +kernel, rfl⟩
theorem d_St_meet_129 : decode m_St_meet.2.1 129 = .ok (.lneg, 1) ∧ 129 + 1 = 130 := ⟨by decide +kernel, rfl⟩
theorem d_St_meet_130 : decode m_St_meet.2.1 130 = .ok (.lload 11, 2) ∧ 130 + 2 = 132 := ⟨by decide +kernel, rfl⟩
theorem d_St_meet_132 : decode m_St_meet.2.1 132 = .ok (.lsub, 1) ∧ 132 + 1 = 133 := ⟨by decide +kernel, rfl⟩
theorem d_St_meet_133 : decode m_St_meet.2.1 133 = .ok (.lconst 0, 1) ∧ 133 + 1 = 134 := ⟨by decide +kernel, rfl⟩
theorem d_St_meet_134 : decode m_St_meet.2.1 134 = .ok (.lconst 0, 1) ∧ 134 + 1 = 135 := ⟨by decide +kernel, rfl⟩
theorem d_St_meet_135 : decode m_St_meet.2.1 135 = .ok (.ldc2_w 114, 3) ∧ 135 + 3 = 138 := ⟨by decide +kernel, rfl⟩
theorem d_St_meet_138 : decode m_St_meet.2.1 138 = .ok (.lload_n 3, 1) ∧ 138 + 1 = 139 := ⟨by decide +kernel, rfl⟩
theorem d_St_meet_139 : decode m_St_meet.2.1 139 = .ok (.lmul, 1) ∧ 139 + 1 = 140 := ⟨by decide +kernel, rfl⟩
theorem d_St_meet_140 : decode m_St_meet.2.1 140 = .ok (.invokevirtual 55, 3) ∧ 140 + 3 = 143 := ⟨by decide +kernel, rfl⟩
theorem d_St_meet_143 : decode m_St_meet.2.1 143 = .ok (.aload_n 0, 1) ∧ 143 + 1 = 144 := ⟨by decide +kernel, rfl⟩
theorem d_St_meet_144 : decode m_St_meet.2.1 144 = .ok (.lload 5, 2) ∧ 144 + 2 = 146 := ⟨by decide +kernel, rfl⟩
theorem d_St_meet_146 : decode m_St_meet.2.1 146 = .ok (.lneg, 1) ∧ 146 + 1 = 147 := ⟨by decide +kernel, rfl⟩
theorem d_St_meet_147 : decode m_St_meet.2.1 147 = .ok (.lload 11, 2) ∧ 147 + 2 = 149 := ⟨by decide +kernel, rfl⟩
theorem d_St_meet_149 : decode m_St_meet.2.1 149 = .ok (.ladd, 1) ∧ 149 + 1 = 150 := ⟨by decide +kernel, rfl⟩
theorem d_St_meet_150 : decode m_St_meet.2.1 150 = .ok (.lconst 0, 1) ∧ 150 + 1 = 151 := ⟨by decide +kernel, rfl⟩
theorem d_St_meet_151 : decode m_St_meet.2.1 151 = .ok (.lconst 0, 1) ∧ 151 + 1 = 152 := ⟨by decide +kernel, rfl⟩
theorem d_St_meet_152 : decode m_St_meet.2.1 152 = .ok (.ldc2_w 114, 3) ∧ 152 + 3 = 155 := ⟨by decide +kernel, rfl⟩
theorem d_St_meet_155 : decode m_St_meet.2.1 155 = .ok (.lload_n 3, 1) ∧ 155 + 1 = 156 := ⟨by decide +kernel, rfl⟩
theorem d_St_meet_156 : decode m_St_meet.2.1 156 = .ok (.lmul, 1) ∧ 156 + 1 = 157 := ⟨by decide +kernel, rfl⟩
theorem d_St_meet_157 : decode m_St_meet.2.1 157 = .ok (.invokevirtual 55, 3) ∧ 157 + 3 = 160 := ⟨by decide +kernel, rfl⟩
theorem d_St_meet_160 : decode m_St_meet.2.1 160 = .ok (.goto 35, 3) ∧ (((160 : Nat) : Int) + (35) = ((195 : Nat) : Int)) := ⟨by decide +kernel, by decide⟩
theorem d_St_meet_163 : decode m_St_meet.2.1 163 = .ok (.aload_n 0, 1) ∧ 163 + 1 = 164 := ⟨by decide +kernel, rfl⟩
theorem d_St_meet_164 : decode m_St_meet.2.1 164 = .ok (.lload 5, 2) ∧ 164 + 2 = 166 := ⟨by decide +kernel, rfl⟩
theorem d_St_meet_166 : decode m_St_meet.2.1 166 = .ok (.lneg, 1) ∧ 166 + 1 = 167 := ⟨by decide +kernel, rfl⟩
theorem d_St_meet_167 : decode m_St_meet.2.1 167 = .ok (.ldc2_w 116, 3) ∧ 167 + 3 = 170 := ⟨by decide +kernel, rfl⟩
theorem d_St_meet_170 : decode m_St_meet.2.1 170 = .ok (.lload 9, 2) ∧ 170 + 2 = 172 := ⟨by decide +kernel, rfl⟩
theorem d_St_meet_172 : decode m_St_meet.2.1 172 = .ok (.ldc2_w 114, 3) ∧ 172 + 3 = 175 := ⟨by decide +kernel, rfl⟩
theorem d_St_meet_175 : decode m_St_meet.2.1 175 = .ok (.lload_n 3, 1) ∧ 175 + 1 = 176 := ⟨by decide +kernel, rfl⟩
theorem d_St_meet_176 : decode m_St_meet.2.1 176 = .ok (.lmul, 1) ∧ 176 + 1 = 177 := ⟨by decide +kernel, rfl⟩
theorem d_St_meet_177 : decode m_St_meet.2.1 177 = .ok (.invokevirtual 55, 3) ∧ 177 + 3 = 180 := ⟨by decide +kernel, rfl⟩
theorem d_St_meet_180 : decode m_St_meet.2.1 180 = .ok (.aload_n 0, 1) ∧ 180 + 1 = 181 := ⟨by decide +kernel, rfl⟩
theorem d_St_meet_181 : decode m_St_meet.2.1 181 = .ok (.lload 5, 2) ∧ 181 + 2 = 183 := ⟨by decide +kernel, rfl⟩
theorem d_St_meet_183 : decode m_St_meet.2.1 183 = .ok (.lneg, 1) ∧ 183 + 1 = 184 := ⟨by decide +kernel, rfl⟩
theorem d_St_meet_184 : decode m_St_meet.2.1 184 = .ok (.lconst 1, 1) ∧ 184 + 1 = 185 := ⟨by decide +kernel, rfl⟩
theorem d_St_meet_185 : decode m_St_meet.2.1 185 = .ok (.lload 9, 2) ∧ 185 + 2 = 187 := ⟨by decide +kernel, rfl⟩
theorem d_St_meet_187 : decode m_St_meet.2.1 187 = .ok (.ldc2_w 114, 3) ∧ 187 + 3 = 190 := ⟨by decide +kernel, rfl⟩
theorem d_St_meet_190 : decode m_St_meet.2.1 190 = .ok (.lload_n 3, 1) ∧ 190 + 1 = 191 := ⟨by decide +kernel, rfl⟩
theorem d_St_meet_191 : decode m_St_meet.2.1 191 = .ok (.lmul, 1) ∧ 191 + 1 = 192 := ⟨by decide +kernel, rfl⟩
theorem d_St_meet_192 : decode m_St_meet.2.1 192 = .ok (.invokevirtual 55, 3) ∧ 192 + 3 = 195 := ⟨by decide +kernel, rfl⟩
theorem d_St_meet_195 : decode m_St_meet.2.1 195 = .ok (.return_, 1) := by decide +kernel
theorem d_St_enter_0 : decode m_St_enter.2.1 0 = .ok (.lload 7, 2) ∧ 0 + 2 = 2 := ⟨by decide +kernel, rfl⟩
theorem d_St_enter_2 : decode m_St_enter.2.1 2 = .ok (.lconst 0, 1) ∧ 2 + 1 = 3 := ⟨by decide +kernel, rfl⟩
theorem d_St_enter_3 : decode m_St_enter.2.1 3 = .ok (.lcmp, 1) ∧ 3 + 1 = 4 := ⟨by decide +kernel, rfl⟩
theorem d_St_enter_4 : decode m_St_enter.2.1 4 = .ok (.ifCond .eq 12, 3) ∧ 4 + 3 = 7 ∧ (((4 : Nat) : Int) + (12) = ((16 : Nat) : Int)) := ⟨by decide +kernel, rfl, by decide⟩
theorem d_St_enter_7 : decode m_St_enter.2.1 7 = .ok (.aload_n 0, 1) ∧ 7 + 1 = 8 := ⟨by decide +kernel, rfl⟩
theorem d_St_enter_8 : decode m_St_enter.2.1 8 = .ok (.getfield 17, 3) ∧ 8 + 3 = 11 := ⟨by decide +kernel, rfl⟩
theorem d_St_enter_11 : decode m_St_enter.2.1 11 = .ok (.bipush 12, 2) ∧ 11 + 2 = 13 ∧ (Int8.ofInt 12).toInt32 = Int32.ofInt 12 := ⟨by decide +kernel, rfl, by decide +kernel⟩
theorem d_St_enter_13 : decode m_St_enter.2.1 13 = .ok (.if_icmp .lt 4, 3) ∧ 13 + 3 = 16 ∧ (((13 : Nat) : Int) + (4) = ((17 : Nat) : Int)) := ⟨by decide +kernel, rfl, by decide⟩
theorem d_St_enter_16 : decode m_St_enter.2.1 16 = .ok (.return_, 1) := by decide +kernel
theorem d_St_enter_17 : decode m_St_enter.2.1 17 = .ok (.aload_n 0, 1) ∧ 17 + 1 = 18 := ⟨by decide +kernel, rfl⟩
theorem d_St_enter_18 : decode m_St_enter.2.1 18 = .ok (.getfield 11, 3) ∧ 18 + 3 = 21 := ⟨by decide +kernel, rfl⟩
theorem d_St_enter_21 : decode m_St_enter.2.1 21 = .ok (.aload_n 0, 1) ∧ 21 + 1 = 22 := ⟨by decide +kernel, rfl⟩
theorem d_St_enter_22 : decode m_St_enter.2.1 22 = .ok (.getfield 17, 3) ∧ 22 + 3 = 25 := ⟨by decide +kernel, rfl⟩
theorem d_St_enter_25 : decode m_St_enter.2.1 25 = .ok (.aaload, 1) ∧ 25 + 1 = 26 := ⟨by decide +kernel, rfl⟩
theorem d_St_enter_26 : decode m_St_enter.2.1 26 = .ok (.astore 9, 2) ∧ 26 + 2 = 28 := ⟨by decide +kernel, rfl⟩
theorem d_St_enter_28 : decode m_St_enter.2.1 28 = .ok (.aload 9, 2) ∧ 28 + 2 = 30 := ⟨by decide +kernel, rfl⟩
theorem d_St_enter_30 : decode m_St_enter.2.1 30 = .ok (.lload_n 1, 1) ∧ 30 + 1 = 31 := ⟨by decide +kernel, rfl⟩
theorem d_St_enter_31 : decode m_St_enter.2.1 31 = .ok (.lload_n 3, 1) ∧ 31 + 1 = 32 := ⟨by decide +kernel, rfl⟩
theorem d_St_enter_32 : decode m_St_enter.2.1 32 = .ok (.lload 5, 2) ∧ 32 + 2 = 34 := ⟨by decide +kernel, rfl⟩
theorem d_St_enter_34 : decode m_St_enter.2.1 34 = .ok (.lload 7, 2) ∧ 34 + 2 = 36 := ⟨by decide +kernel, rfl⟩
theorem d_St_enter_36 : decode m_St_enter.2.1 36 = .ok (.invokevirtual 118, 3) ∧ 36 + 3 = 39 := ⟨by decide +kernel, rfl⟩
theorem d_St_enter_39 : decode m_St_enter.2.1 39 = .ok (.iconst 0, 1) ∧ 39 + 1 = 40 := ⟨by decide +kernel, rfl⟩
theorem d_St_enter_40 : decode m_St_enter.2.1 40 = .ok (.istore 10, 2) ∧ 40 + 2 = 42 := ⟨by decide +kernel, rfl⟩
theorem d_St_enter_42 : decode m_St_enter.2.1 42 = .ok (.iload 10, 2) ∧ 42 + 2 = 44 := ⟨by decide +kernel, rfl⟩
theorem d_St_enter_44 : decode m_St_enter.2.1 44 = .ok (.aload_n 0, 1) ∧ 44 + 1 = 45 := ⟨by decide +kernel, rfl⟩
theorem d_St_enter_45 : decode m_St_enter.2.1 45 = .ok (.getfield 17, 3) ∧ 45 + 3 = 48 := ⟨by decide +kernel, rfl⟩
theorem d_St_enter_48 : decode m_St_enter.2.1 48 = .ok (.if_icmp .ge 37, 3) ∧ 48 + 3 = 51 ∧ (((48 : Nat) : Int) + (37) = ((85 : Nat) : Int)) := ⟨by decide +kernel, rfl, by decide⟩
theorem d_St_enter_51 : decode m_St_enter.2.1 51 = .ok (.aload_n 0, 1) ∧ 51 + 1 = 52 := ⟨by decide +kernel, rfl⟩
theorem d_St_enter_52 : decode m_St_enter.2.1 52 = .ok (.getfield 11, 3) ∧ 52 + 3 = 55 := ⟨by decide +kernel, rfl⟩
theorem d_St_enter_55 : decode m_St_enter.2.1 55 = .ok (.iload 10, 2) ∧ 55 + 2 = 57 := ⟨by decide +kernel, rfl⟩
theorem d_St_enter_57 : decode m_St_enter.2.1 57 = .ok (.aaload, 1) ∧ 57 + 1 = 58 := ⟨by decide +kernel, rfl⟩
theorem d_St_enter_58 : decode m_St_enter.2.1 58 = .ok (.aload 9, 2) ∧ 58 + 2 = 60 := ⟨by decide +kernel, rfl⟩
theorem d_St_enter_60 : decode m_St_enter.2.1 60 = .ok (.invokevirtual 121, 3) ∧ 60 + 3 = 63 := ⟨by decide +kernel, rfl⟩
theorem d_St_enter_63 : decode m_St_enter.2.1 63 = .ok (.istore 11, 2) ∧ 63 + 2 = 65 := ⟨by decide +kernel, rfl⟩
theorem d_St_enter_65 : decode m_St_enter.2.1 65 = .ok (.iload 11, 2) ∧ 65 + 2 = 67 := ⟨by decide +kernel, rfl⟩
theorem d_St_enter_67 : decode m_St_enter.2.1 67 = .ok (.ifCond .ne 4, 3) ∧ 67 + 3 = 70 ∧ (((67 : Nat) : Int) + (4) = ((71 : Nat) : Int)) := ⟨by decide +kernel, rfl, by decide⟩
theorem d_St_enter_70 : decode m_St_enter.2.1 70 = .ok (.return_, 1) := by decide +kernel
theorem d_St_enter_71 : decode m_St_enter.2.1 71 = .ok (.iload 11, 2) ∧ 71 + 2 = 73 := ⟨by decide +kernel, rfl⟩
theorem d_St_enter_73 : decode m_St_enter.2.1 73 = .ok (.ifCond .le 6, 3) ∧ 73 + 3 = 76 ∧ (((73 : Nat) : Int) + (6) = ((79 : Nat) : Int)) := ⟨by decide +kernel, rfl, by decide⟩
theorem d_St_enter_76 : decode m_St_enter.2.1 76 = .ok (.goto 9, 3) ∧ (((76 : Nat) : Int) + (9) = ((85 : Nat) : Int)) := ⟨by decide +kernel, by decide⟩
theorem d_St_enter_79 : decode m_St_enter.2.1 79 = .ok (.iinc 10 1, 3) ∧ 79 + 3 = 82 := ⟨by decide +kernel, rfl⟩
theorem d_St_enter_82 : decode m_St_enter.2.1 82 = .ok (.goto (-40), 3) ∧ (((82 : Nat) : Int) + (-40) = ((42 : Nat) : Int)) := ⟨by decide +kernel, by decide⟩
theorem d_St_enter_85 : decode m_St_enter.2.1 85 = .ok (.aload_n 0, 1) ∧ 85 + 1 = 86 := ⟨by decide +kernel, rfl⟩
theorem d_St_enter_86 : decode m_St_enter.2.1 86 = .ok (.getfield 17, 3) ∧ 86 + 3 = 89 := ⟨by decide +kernel, rfl⟩
theorem d_St_enter_89 : decode m_St_enter.2.1 89 = .ok (.istore 11, 2) ∧ 89 + 2 = 91 := ⟨by decide +kernel, rfl⟩
theorem d_St_enter_91 : decode m_St_enter.2.1 91 = .ok (.iload 11, 2) ∧ 91 + 2 = 93 := ⟨by decide +kernel, rfl⟩
theorem d_St_enter_93 : decode m_St_enter.2.1 93 = .ok (.iload 10, 2) ∧ 93 + 2 = 95 := ⟨by decide +kernel, rfl⟩
theorem d_St_enter_95 : decode m_St_enter.2.1 95 = .ok (.if_icmp .le 25, 3) ∧ 95 + 3 = 98 ∧ (((95 : Nat) : Int) + (25) = ((120 : Nat) : Int)) := ⟨by decide +kernel, rfl, by decide⟩
theorem d_St_enter_98 : decode m_St_enter.2.1 98 = .ok (.aload_n 0, 1) ∧ 98 + 1 = 99 := ⟨by decide +kernel, rfl⟩
theorem d_St_enter_99 : decode m_St_enter.2.1 99 = .ok (.getfield 11, 3) ∧ 99 + 3 = 102 := ⟨by decide +kernel, rfl⟩
theorem d_St_enter_102 : decode m_St_enter.2.1 102 = .ok (.iload 11, 2) ∧ 102 + 2 = 104 := ⟨by decide +kernel, rfl⟩
theorem d_St_enter_104 : decode m_St_enter.2.1 104 = .ok (.aload_n 0, 1) ∧ 104 + 1 = 105 := ⟨by decide +kernel, rfl⟩
theorem d_St_enter_105 : decode m_St_enter.2.1 105 = .ok (.getfield 11, 3) ∧ 105 + 3 = 108 := ⟨by decide +kernel, rfl⟩
theorem d_St_enter_108 : decode m_St_enter.2.1 108 = .ok (.iload 11, 2) ∧ 108 + 2 = 110 := ⟨by decide +kernel, rfl⟩
theorem d_St_enter_110 : decode m_St_enter.2.1 110 = .ok (.iconst 1, 1) ∧ 110 + 1 = 111 := ⟨by decide +kernel, rfl⟩
theorem d_St_enter_111 : decode m_St_enter.2.1 111 = .ok (.isub, 1) ∧ 111 + 1 = 112 := ⟨by decide +kernel, rfl⟩
theorem d_St_enter_112 : decode m_St_enter.2.1 112 = .ok (.aaload, 1) ∧ 112 + 1 = 113 := ⟨by decide +kernel, rfl⟩
theorem d_St_enter_113 : decode m_St_enter.2.1 113 = .ok (.aastore, 1) ∧ 113 + 1 = 114 := ⟨by decide +kernel, rfl⟩
theorem d_St_enter_114 : decode m_St_enter.2.1 114 = .ok (.iinc 11 (-1), 3) ∧ 114 + 3 = 117 := ⟨by decide +kernel, rfl⟩
theorem d_St_enter_117 : decode m_St_enter.2.1 117 = .ok (.goto (-26), 3) ∧ (((117 : Nat) : Int) + (-26) = ((91 : Nat) : Int)) := ⟨by decide +kernel, by decide⟩
theorem d_St_enter_120 : decode m_St_enter.2.1 120 = .ok (.aload_n 0, 1) ∧ 120 + 1 = 121 := ⟨by decide +kernel, rfl⟩
theorem d_St_enter_121 : decode m_St_enter.2.1 121 = .ok (.getfield 11, 3) ∧ 121 + 3 = 124 := ⟨by decide +kernel, rfl⟩
theorem d_St_enter_124 : decode m_St_enter.2.1 124 = .ok (.iload 10, 2) ∧ 124 + 2 = 126 := ⟨by decide +kernel, rfl⟩
theorem d_St_enter_126 : decode m_St_enter.2.1 126 = .ok (.aload 9, 2) ∧ 126 + 2 = 128 := ⟨by decide +kernel, rfl⟩
theorem d_St_enter_128 : decode m_St_enter.2.1 128 = .ok (.aastore, 1) ∧ 128 + 1 = 129 := ⟨by decide +kernel, rfl⟩
theorem d_St_enter_129 : decode m_St_enter.2.1 129 = .ok (.aload_n 0, 1) ∧ 129 + 1 = 130 := ⟨by decide +kernel, rfl⟩
theorem d_St_enter_130 : decode m_St_enter.2.1 130 = .ok (.dup, 1) ∧ 130 + 1 = 131 := ⟨by decide +kernel, rfl⟩
theorem d_St_enter_131 : decode m_St_enter.2.1 131 = .ok (.getfield 17, 3) ∧ 131 + 3 = 134 := ⟨by decide +kernel, rfl⟩
theorem d_St_enter_134 : decode m_St_enter.2.1 134 = .ok (.iconst 1, 1) ∧ 134 + 1 = 135 := ⟨by decide +kernel, rfl⟩
theorem d_St_enter_135 : decode m_St_enter.2.1 135 = .ok (.iadd, 1) ∧ 135 + 1 = 136 := ⟨by decide +kernel, rfl⟩
theorem d_St_enter_136 : decode m_St_enter.2.1 136 = .ok (.putfield 17, 3) ∧ 136 + 3 = 139 := ⟨by decide +kernel, rfl⟩
theorem d_St_enter_139 : decode m_St_enter.2.1 139 = .ok (.return_, 1) := by decide +kernel
theorem d_St_comeFromFarLeft_0 : decode m_St_comeFromFarLeft.2.1 0 = .ok (.iconst 0, 1) ∧ 0 + 1 = 1 := ⟨by decide +kernel, rfl⟩
theorem d_St_comeFromFarLeft_1 : decode m_St_comeFromFarLeft.2.1 1 = .ok (.istore_n 1, 1) ∧ 1 + 1 = 2 := ⟨by decide +kernel, rfl⟩
theorem d_St_comeFromFarLeft_2 : decode m_St_comeFromFarLeft.2.1 2 = .ok (.iload_n 1, 1) ∧ 2 + 1 = 3 := ⟨by decide +kernel, rfl⟩
theorem d_St_comeFromFarLeft_3 : decode m_St_comeFromFarLeft.2.1 3 = .ok (.aload_n 0, 1) ∧ 3 + 1 = 4 := ⟨by decide +kernel, rfl⟩
theorem d_St_comeFromFarLeft_4 : decode m_St_comeFromFarLeft.2.1 4 = .ok (.getfield 24, 3) ∧ 4 + 3 = 7 := ⟨by decide +kernel, rfl⟩
theorem d_St_comeFromFarLeft_7 : decode m_St_comeFromFarLeft.2.1 7 = .ok (.if_icmp .ge 85, 3) ∧ 7 + 3 = 10 ∧ (((7 : Nat) : Int) + (85) = ((92 : Nat) : Int)) := ⟨by decide +kernel, rfl, by decide⟩
theorem d_St_comeFromFarLeft_10 : decode m_St_comeFromFarLeft.2.1 10 = .ok (.iconst 0, 1) ∧ 10 + 1 = 11 := ⟨by decide +kernel, rfl⟩
theorem d_St_comeFromFarLeft_11 : decode m_St_comeFromFarLeft.2.1 11 = .ok (.istore_n 2, 1) ∧ 11 + 1 = 12 := ⟨by decide +kernel, rfl⟩
theorem d_St_comeFromFarLeft_12 : decode m_St_comeFromFarLeft.2.1 12 = .ok (.iload_n 2, 1) ∧ 12 + 1 = 13 := ⟨by decide +kernel, rfl⟩
theorem d_St_comeFromFarLeft_13 : decode m_St_comeFromFarLeft.2.1 13 = .ok (.iload_n 1, 1) ∧ 13 + 1 = 14 := ⟨by decide +kernel, rfl⟩
theorem d_St_comeFromFarLeft_14 : decode m_St_comeFromFarLeft.2.1 14 = .ok (.if_icmp .ge 72, 3) ∧ 14 + 3 = 17 ∧ (((14 : Nat) : Int) + (72) = ((86 : Nat) : Int)) := ⟨by decide +kernel, rfl, by decide⟩
theorem d_St_comeFromFarLeft_17 : decode m_St_comeFromFarLeft.2.1 17 = .ok (.aload_n 0, 1) ∧ 17 + 1 = 18 := ⟨by decide +kernel, rfl⟩
theorem d_St_comeFromFarLeft_18 : decode m_St_comeFromFarLeft.2.1 18 = .ok (.getfield 38, 3) ∧ 18 + 3 = 21 := ⟨by decide +kernel, rfl⟩
theorem d_St_comeFromFarLeft_21 : decode m_St_comeFromFarLeft.2.1 21 = .ok (.iload_n 1, 1) ∧ 21 + 1 = 22 := ⟨by decide +kernel, rfl⟩
theorem d_St_comeFromFarLeft_22 : decode m_St_comeFromFarLeft.2.1 22 = .ok (.iaload, 1) ∧ 22 + 1 = 23 := ⟨by decide +kernel, rfl⟩
theorem d_St_comeFromFarLeft_23 : decode m_St_comeFromFarLeft.2.1 23 = .ok (.aload_n 0, 1) ∧ 23 + 1 = 24 := ⟨by decide +kernel, rfl⟩
theorem d_St_comeFromFarLeft_24 : decode m_St_comeFromFarLeft.2.1 24 = .ok (.getfield 38, 3) ∧ 24 + 3 = 27 := ⟨by decide +kernel, rfl⟩
theorem d_St_comeFromFarLeft_27 : decode m_St_comeFromFarLeft.2.1 27 = .ok (.iload_n 2, 1) ∧ 27 + 1 = 28 := ⟨by decide +kernel, rfl⟩
theorem d_St_comeFromFarLeft_28 : decode m_St_comeFromFarLeft.2.1 28 = .ok (.iaload, 1) ∧ 28 + 1 = 29 := ⟨by decide +kernel, rfl⟩
theorem d_St_comeFromFarLeft_29 : decode m_St_comeFromFarLeft.2.1 29 = .ok (.invokestatic 125, 3) ∧ 29 + 3 = 32 := ⟨by decide +kernel, rfl⟩
theorem d_St_comeFromFarLeft_32 : decode m_St_comeFromFarLeft.2.1 32 = .ok (.istore_n 3, 1) ∧ 32 + 1 = 33 := ⟨by decide +kernel, rfl⟩
theorem d_St_comeFromFarLeft_33 : decode m_St_comeFromFarLeft.2.1 33 = .ok (.iload_n 3, 1) ∧ 33 + 1 = 34 := ⟨by decide +kernel, rfl⟩
theorem d_St_comeFromFarLeft_34 : decode m_St_comeFromFarLeft.2.1 34 = .ok (.ifCond .ne 19, 3) ∧ 34 + 3 = 37 ∧ (((34 : Nat) : Int) + (19) = ((53 : Nat) : Int)) := ⟨by decide +kernel, rfl, by decide⟩
theorem d_St_comeFromFarLeft_37 : decode m_St_comeFromFarLeft.2.1 37 = .ok (.aload_n 0, 1) ∧ 37 + 1 = 38 := ⟨by decide +kernel, rfl⟩
theorem d_St_comeFromFarLeft_38 : decode m_St_comeFromFarLeft.2.1 38 = .ok (.getfield 41, 3) ∧ 38 + 3 = 41 := ⟨by decide +kernel, rfl⟩
theorem d_St_comeFromFarLeft_41 : decode m_St_comeFromFarLeft.2.1 41 = .ok (.iload_n 2, 1) ∧ 41 + 1 = 42 := ⟨by decide +kernel, rfl⟩
theorem d_St_comeFromFarLeft_42 : decode m_St_comeFromFarLeft.2.1 42 = .ok (.iaload, 1) ∧ 42 + 1 = 43 := ⟨by decide +kernel, rfl⟩
theorem d_St_comeFromFarLeft_43 : decode m_St_comeFromFarLeft.2.1 43 = .ok (.aload_n 0, 1) ∧ 43 + 1 = 44 := ⟨by decide +kernel, rfl⟩
theorem d_St_comeFromFarLeft_44 : decode m_St_comeFromFarLeft.2.1 44 = .ok (.getfield 41, 3) ∧ 44 + 3 = 47 := ⟨by decide +kernel, rfl⟩
theorem d_St_comeFromFarLeft_47 : decode m_St_comeFromFarLeft.2.1 47 = .ok (.iload_n 1, 1) ∧ 47 + 1 = 48 := ⟨by decide +kernel, rfl⟩
theorem d_St_comeFromFarLeft_48 : decode m_St_comeFromFarLeft.2.1 48 = .ok (.iaload, 1) ∧ 48 + 1 = 49 := ⟨by decide +kernel, rfl⟩
theorem d_St_comeFromFarLeft_49 : decode m_St_comeFromFarLeft.2.1 49 = .ok (.invokestatic 125, 3) ∧ 49 + 3 = 52 := ⟨by decide +kernel, rfl⟩
theorem d_St_comeFromFarLeft_52 : decode m_St_comeFromFarLeft.2.1 52 = .ok (.istore_n 3, 1) ∧ 52 + 1 = 53 := ⟨by decide +kernel, rfl⟩
theorem d_St_comeFromFarLeft_53 : decode m_St_comeFromFarLeft.2.1 53 = .ok (.iload_n 3, 1) ∧ 53 + 1 = 54 := ⟨by decide +kernel, rfl⟩
theorem d_St_comeFromFarLeft_54 : decode m_St_comeFromFarLeft.2.1 54 = .ok (.ifCond .ne 19, 3) ∧ 54 + 3 = 57 ∧ (((54 : Nat) : Int) + (19) = ((73 : Nat) : Int)) := ⟨by decide +kernel, rfl, by decide⟩
theorem d_St_comeFromFarLeft_57 : decode m_St_comeFromFarLeft.2.1 57 = .ok (.aload_n 0, 1) ∧ 57 + 1 = 58 := ⟨by decide +kernel, rfl⟩
theorem d_St_comeFromFarLeft_58 : decode m_St_comeFromFarLeft.2.1 58 = .ok (.getfield 44, 3) ∧ 58 + 3 = 61 := ⟨by decide +kernel, rfl⟩
theorem d_St_comeFromFarLeft_61 : decode m_St_comeFromFarLeft.2.1 61 = .ok (.iload_n 1, 1) ∧ 61 + 1 = 62 := ⟨by decide +kernel, rfl⟩
theorem d_St_comeFromFarLeft_62 : decode m_St_comeFromFarLeft.2.1 62 = .ok (.iaload, 1) ∧ 62 + 1 = 63 := ⟨by decide +kernel, rfl⟩
theorem d_St_comeFromFarLeft_63 : decode m_St_comeFromFarLeft.2.1 63 = .ok (.aload_n 0, 1) ∧ 63 + 1 = 64 := ⟨by decide +kernel, rfl⟩
theorem d_St_comeFromFarLeft_64 : decode m_St_comeFromFarLeft.2.1 64 = .ok (.getfield 44, 3) ∧ 64 + 3 = 67 := ⟨by decide +kernel, rfl⟩
theorem d_St_comeFromFarLeft_67 : decode m_St_comeFromFarLeft.2.1 67 = .ok (.iload_n 2, 1) ∧ 67 + 1 = 68 := ⟨by decide +kernel, rfl⟩
theorem d_St_comeFromFarLeft_68 : decode m_St_comeFromFarLeft.2.1 68 = .ok (.iaload, 1) ∧ 68 + 1 = 69 := ⟨by decide +kernel, rfl⟩
theorem d_St_comeFromFarLeft_69 : decode m_St_comeFromFarLeft.2.1 69 = .ok (.invokestatic 125, 3) ∧ 69 + 3 = 72 := ⟨by decide +kernel, rfl⟩
theorem d_St_comeFromFarLeft_72 : decode m_St_comeFromFarLeft.2.1 72 = .ok (.istore_n 3, 1) ∧ 72 + 1 = 73 := ⟨by decide +kernel, rfl⟩
theorem d_St_comeFromFarLeft_73 : decode m_St_comeFromFarLeft.2.1 73 = .ok (.aload_n 0, 1) ∧ 73 + 1 = 74 := ⟨by decide +kernel, rfl⟩
theorem d_St_comeFromFarLeft_74 : decode m_St_comeFromFarLeft.2.1 74 = .ok (.iload_n 1, 1) ∧ 74 + 1 = 75 := ⟨by decide +kernel, rfl⟩
theorem d_St_comeFromFarLeft_75 : decode m_St_comeFromFarLeft.2.1 75 = .ok (.iload_n 2, 1) ∧ 75 + 1 = 76 := ⟨by decide +kernel, rfl⟩
theorem d_St_comeFromFarLeft_76 : decode m_St_comeFromFarLeft.2.1 76 = .ok (.iload_n 3, 1) ∧ 76 + 1 = 77 := ⟨by decide +kernel, rfl⟩
theorem d_St_comeFromFarLeft_77 : decode m_St_comeFromFarLeft.2.1 77 = .ok (.invokevirtual 131, 3) ∧ 77 + 3 = 80 := ⟨by decide +kernel, rfl⟩
theorem d_St_comeFromFarLeft_80 : decode m_St_comeFromFarLeft.2.1 80 = .ok (.iinc 2 1, 3) ∧ 80 + 3 = 83 := ⟨by decide +kernel, rfl⟩
theorem d_St_comeFromFarLeft_83 : decode m_St_comeFromFarLeft.2.1 83 = .ok (.goto (-71), 3) ∧ (((83 : Nat) : Int) + (-71) = ((12 : Nat) : Int)) := ⟨by decide +kernel, by decide⟩
theorem d_St_comeFromFarLeft_86 : decode m_St_comeFromFarLeft.2.1 86 = .ok (.iinc 1 1, 3) ∧ 86 + 3 = 89 := ⟨by decide +kernel, rfl⟩
theorem d_St_comeFromFarLeft_89 : decode m_St_comeFromFarLeft.2.1 89 = .ok (.goto (-87), 3) ∧ (((89 : Nat) : Int) + (-87) = ((2 : Nat) : Int)) := ⟨by decide +kernel, by decide⟩
theorem d_St_comeFromFarLeft_92 : decode m_St_comeFromFarLeft.2.1 92 = .ok (.return_, 1) := by decide +kernel
theorem d_St_stopAt_0 : decode m_St_stopAt.2.1 0 = .ok (.iconst 0, 1) ∧ 0 + 1 = 1 := ⟨by decide +kernel, rfl⟩
theorem d_St_stopAt_1 : decode m_St_stopAt.2.1 1 = .ok (.istore_n 2, 1) ∧ 1 + 1 = 2 := ⟨by decide +kernel, rfl⟩
theorem d_St_stopAt_2 : decode m_St_stopAt.2.1 2 = .ok (.iload_n 2, 1) ∧ 2 + 1 = 3 := ⟨by decide +kernel, rfl⟩
theorem d_St_stopAt_3 : decode m_St_stopAt.2.1 3 = .ok (.aload_n 0, 1) ∧ 3 + 1 = 4 := ⟨by decide +kernel, rfl⟩
theorem d_St_stopAt_4 : decode m_St_stopAt.2.1 4 = .ok (.getfield 24, 3) ∧ 4 + 3 = 7 := ⟨by decide +kernel, rfl⟩
theorem d_St_stopAt_7 : decode m_St_stopAt.2.1 7 = .ok (.if_icmp .ge 74, 3) ∧ 7 + 3 = 10 ∧ (((7 : Nat) : Int) + (74) = ((81 : Nat) : Int)) := ⟨by decide +kernel, rfl, by decide⟩
theorem d_St_stopAt_10 : decode m_St_stopAt.2.1 10 = .ok (.iconst 0, 1) ∧ 10 + 1 = 11 := ⟨by decide +kernel, rfl⟩
theorem d_St_stopAt_11 : decode m_St_stopAt.2.1 11 = .ok (.istore_n 3, 1) ∧ 11 + 1 = 12 := ⟨by decide +kernel, rfl⟩
theorem d_St_stopAt_12 : decode m_St_stopAt.2.1 12 = .ok (.iload_n 3, 1) ∧ 12 + 1 = 13 := ⟨by decide +kernel, rfl⟩
theorem d_St_stopAt_13 : decode m_St_stopAt.2.1 13 = .ok (.iload_n 2, 1) ∧ 13 + 1 = 14 := ⟨by decide +kernel, rfl⟩
theorem d_St_stopAt_14 : decode m_St_stopAt.2.1 14 = .ok (.if_icmp .ge 61, 3) ∧ 14 + 3 = 17 ∧ (((14 : Nat) : Int) + (61) = ((75 : Nat) : Int)) := ⟨by decide +kernel, rfl, by decide⟩
theorem d_St_stopAt_17 : decode m_St_stopAt.2.1 17 = .ok (.aload_n 0, 1) ∧ 17 + 1 = 18 := ⟨by decide +kernel, rfl⟩
theorem d_St_stopAt_18 : decode m_St_stopAt.2.1 18 = .ok (.iload_n 2, 1) ∧ 18 + 1 = 19 := ⟨by decide +kernel, rfl⟩
theorem d_St_stopAt_19 : decode m_St_stopAt.2.1 19 = .ok (.iload_n 3, 1) ∧ 19 + 1 = 20 := ⟨by decide +kernel, rfl⟩
theorem d_St_stopAt_20 : decode m_St_stopAt.2.1 20 = .ok (.aload_n 1, 1) ∧ 20 + 1 = 21 := ⟨by decide +kernel, rfl⟩
theorem d_St_stopAt_21 : decode m_St_stopAt.2.1 21 = .ok (.aload_n 0, 1) ∧ 21 + 1 = 22 := ⟨by decide +kernel, rfl⟩
theorem d_St_stopAt_22 : decode m_St_stopAt.2.1 22 = .ok (.getfield 38, 3) ∧ 22 + 3 = 25 := ⟨by decide +kernel, rfl⟩
theorem d_St_stopAt_25 : decode m_St_stopAt.2.1 25 = .ok (.iload_n 2, 1) ∧ 25 + 1 = 26 := ⟨by decide +kernel, rfl⟩
theorem d_St_stopAt_26 : decode m_St_stopAt.2.1 26 = .ok (.iaload, 1) ∧ 26 + 1 = 27 := ⟨by decide +kernel, rfl⟩
theorem d_St_stopAt_27 : decode m_St_stopAt.2.1 27 = .ok (.aload_n 0, 1) ∧ 27 + 1 = 28 := ⟨by decide +kernel, rfl⟩
theorem d_St_stopAt_28 : decode m_St_stopAt.2.1 28 = .ok (.getfield 38, 3) ∧ 28 + 3 = 31 := ⟨by decide +kernel, rfl⟩
theorem d_St_stopAt_31 : decode m_St_stopAt.2.1 31 = .ok (.iload_n 3, 1) ∧ 31 + 1 = 32 := ⟨by decide +kernel, rfl⟩
theorem d_St_stopAt_32 : decode m_St_stopAt.2.1 32 = .ok (.iaload, 1) ∧ 32 + 1 = 33 := ⟨by decide +kernel, rfl⟩
theorem d_St_stopAt_33 : decode m_St_stopAt.2.1 33 = .ok (.isub, 1) ∧ 33 + 1 = 34 := ⟨by decide +kernel, rfl⟩
theorem d_St_stopAt_34 : decode m_St_stopAt.2.1 34 = .ok (.i2l, 1) ∧ 34 + 1 = 35 := ⟨by decide +kernel, rfl⟩
theorem d_St_stopAt_35 : decode m_St_stopAt.2.1 35 = .ok (.aload_n 0, 1) ∧ 35 + 1 = 36 := ⟨by decide +kernel, rfl⟩
theorem d_St_stopAt_36 : decode m_St_stopAt.2.1 36 = .ok (.getfield 41, 3) ∧ 36 + 3 = 39 := ⟨by decide +kernel, rfl⟩
theorem d_St_stopAt_39 : decode m_St_stopAt.2.1 39 = .ok (.iload_n 2, 1) ∧ 39 + 1 = 40 := ⟨by decide +kernel, rfl⟩
theorem d_St_stopAt_40 : decode m_St_stopAt.2.1 40 = .ok (.iaload, 1) ∧ 40 + 1 = 41 := ⟨by decide +kernel, rfl⟩
theorem d_St_stopAt_41 : decode m_St_stopAt.2.1 41 = .ok (.aload_n 0, 1) ∧ 41 + 1 = 42 := ⟨by decide +kernel, rfl⟩
theorem d_St_stopAt_42 : decode m_St_stopAt.2.1 42 = .ok (.getfield 41, 3) ∧ 42 + 3 = 45 := ⟨by decide +kernel, rfl⟩
theorem d_St_stopAt_45 : decode m_St_stopAt.2.1 45 = .ok (.iload_n 3, 1) ∧ 45 + 1 = 46 := ⟨by decide +kernel, rfl⟩
theorem d_St_stopAt_46 : decode m_St_stopAt.2.1 46 = .ok (.iaload, 1) ∧ 46 + 1 = 47 := ⟨by decide +kernel, rfl⟩
theorem d_St_stopAt_47 : decode m_St_stopAt.2.1 47 = .ok (.isub, 1) ∧ 47 + 1 = 48 := ⟨by decide +kernel, rfl⟩
theorem d_St_stopAt_48 : decode m_St_stopAt.2.1 48 = .ok (.i2l, 1) ∧ 48 + 1 = 49 := ⟨by decide +kernel, rfl⟩
theorem d_St_stopAt_49 : decode m_St_stopAt.2.1 49 = .ok (.aload_n 0, 1) ∧ 49 + 1 = 50 := ⟨by decide +kernel, rfl⟩
theorem d_St_stopAt_50 : decode m_St_stopAt.2.1 50 = .ok (.getfield 44, 3) ∧ 50 + 3 = 53 := ⟨by decide +kernel, rfl⟩
theorem d_St_stopAt_53 : decode m_St_stopAt.2.1 53 = .ok (.iload_n 2, 1) ∧ 53 + 1 = 54 := ⟨by decide +kernel, rfl⟩
theorem d_St_stopAt_54 : decode m_St_stopAt.2.1 54 = .ok (.iaload, 1) ∧ 54 + 1 = 55 := ⟨by decide +kernel, rfl⟩
theorem d_St_stopAt_55 : decode m_St_stopAt.2.1 55 = .ok (.aload_n 0, 1) ∧ 55 + 1 = 56 := ⟨by decide +kernel, rfl⟩
theorem d_St_stopAt_56 : decode m_St_stopAt.2.1 56 = .ok (.getfield 44, 3) ∧ 56 + 3 = 59 := ⟨by decide +kernel, rfl⟩
theorem d_St_stopAt_59 : decode m_St_stopAt.2.1 59 = .ok (.iload_n 3, 1) ∧ 59 + 1 = 60 := ⟨by decide +kernel, rfl⟩
theorem d_St_stopAt_60 : decode m_St_stopAt.2.1 60 = .ok (.iaload, 1) ∧ 60 + 1 = 61 := ⟨by decide +kernel, rfl⟩
theorem d_St_stopAt_61 : decode m_St_stopAt.2.1 61 = .ok (.isub, 1) ∧ 61 + 1 = 62 := ⟨by decide +kernel, rfl⟩
theorem d_St_stopAt_62 : decode m_St_stopAt.2.1 62 = .ok (.i2l, 1) ∧ 62 + 1 = 63 := ⟨by decide +kernel, rfl⟩
theorem d_St_stopAt_63 : decode m_St_stopAt.2.1 63 = .ok (.invokevirtual 135, 3) ∧ 63 + 3 = 66 := ⟨by decide +kernel, rfl⟩
theorem d_St_stopAt_66 : decode m_St_stopAt.2.1 66 = .ok (.invokevirtual 131, 3) ∧ 66 + 3 = 69 := ⟨by decide +kernel, rfl⟩
theorem d_St_stopAt_69 : decode m_St_stopAt.2.1 69 = .ok (.iinc 3 1, 3) ∧ 69 + 3 = 72 := ⟨by decide +kernel, rfl⟩
theorem d_St_stopAt_72 : decode m_St_stopAt.2.1 72 = .ok (.goto (-60), 3) ∧ (((72 : Nat) : Int) + (-60) = ((12 : Nat) : Int)) := ⟨by decide +kernel, by decide⟩
theorem d_St_stopAt_75 : decode m_St_stopAt.2.1 75 = .ok (.iinc 2 1, 3) ∧ 75 + 3 = 78 := ⟨by decide +kernel, rfl⟩
theorem d_St_stopAt_78 : decode m_St_stopAt.2.1 78 = .ok (.goto (-76), 3) ∧ (((78 : Nat) : Int) + (-76) = ((2 : Nat) : Int)) := ⟨by decide +kernel, by decide⟩
theorem d_St_stopAt_81 : decode m_St_stopAt.2.1 81 = .ok (.return_, 1) := by decide +kernel
theorem d_St_goOnFrom_0 : decode m_St_goOnFrom.2.1 0 = .ok (.iconst 0, 1) ∧ 0 + 1 = 1 := ⟨by decide +kernel, rfl⟩
theorem d_St_goOnFrom_1 : decode m_St_goOnFrom.2.1 1 = .ok (.istore_n 2, 1) ∧ 1 + 1 = 2 := ⟨by decide +kernel, rfl⟩
theorem d_St_goOnFrom_2 : decode m_St_goOnFrom.2.1 2 = .ok (.iload_n 2, 1) ∧ 2 + 1 = 3 := ⟨by decide +kernel, rfl⟩
theorem d_St_goOnFrom_3 : decode m_St_goOnFrom.2.1 3 = .ok (.aload_n 0, 1) ∧ 3 + 1 = 4 := ⟨by decide +kernel, rfl⟩
theorem d_St_goOnFrom_4 : decode m_St_goOnFrom.2.1 4 = .ok (.getfield 24, 3) ∧ 4 + 3 = 7 := ⟨by decide +kernel, rfl⟩
theorem d_St_goOnFrom_7 : decode m_St_goOnFrom.2.1 7 = .ok (.if_icmp .ge 102, 3) ∧ 7 + 3 = 10 ∧ (((7 : Nat) : Int) + (102) = ((109 : Nat) : Int)) := ⟨by decide +kernel, rfl, by decide⟩
theorem d_St_goOnFrom_10 : decode m_St_goOnFrom.2.1 10 = .ok (.iconst 0, 1) ∧ 10 + 1 = 11 := ⟨by decide +kernel, rfl⟩
theorem d_St_goOnFrom_11 : decode m_St_goOnFrom.2.1 11 = .ok (.istore_n 3, 1) ∧ 11 + 1 = 12 := ⟨by decide +kernel, rfl⟩
theorem d_St_goOnFrom_12 : decode m_St_goOnFrom.2.1 12 = .ok (.iload_n 3, 1) ∧ 12 + 1 = 13 := ⟨by decide +kernel, rfl⟩
theorem d_St_goOnFrom_13 : decode m_St_goOnFrom.2.1 13 = .ok (.iload_n 2, 1) ∧ 13 + 1 = 14 := ⟨by decide +kernel, rfl⟩
theorem d_St_goOnFrom_14 : decode m_St_goOnFrom.2.1 14 = .ok (.if_icmp .ge 89, 3) ∧ 14 + 3 = 17 ∧ (((14 : Nat) : Int) + (89) = ((103 : Nat) : Int)) := ⟨by decide +kernel, rfl, by decide⟩
theorem d_St_goOnFrom_17 : decode m_St_goOnFrom.2.1 17 = .ok (.aload_n 0, 1) ∧ 17 + 1 = 18 := ⟨by decide +kernel, rfl⟩
theorem d_St_goOnFrom_18 : decode m_St_goOnFrom.2.1 18 = .ok (.getfield 47, 3) ∧ 18 + 3 = 21 := ⟨by decide +kernel, rfl⟩
theorem d_St_goOnFrom_21 : decode m_St_goOnFrom.2.1 21 = .ok (.iconst 4, 1) ∧ 21 + 1 = 22 := ⟨by decide +kernel, rfl⟩
theorem d_St_goOnFrom_22 : decode m_St_goOnFrom.2.1 22 = .ok (.iload_n 2, 1) ∧ 22 + 1 = 23 := ⟨by decide +kernel, rfl⟩
theorem d_St_goOnFrom_23 : decode m_St_goOnFrom.2.1 23 = .ok (.imul, 1) ∧ 23 + 1 = 24 := ⟨by decide +kernel, rfl⟩
theorem d_St_goOnFrom_24 : decode m_St_goOnFrom.2.1 24 = .ok (.iload_n 3, 1) ∧ 24 + 1 = 25 := ⟨by decide +kernel, rfl⟩
theorem d_St_goOnFrom_25 : decode m_St_goOnFrom.2.1 25 = .ok (.iadd, 1) ∧ 25 + 1 = 26 := ⟨by decide +kernel, rfl⟩
theorem d_St_goOnFrom_26 : decode m_St_goOnFrom.2.1 26 = .ok (.iaload, 1) ∧ 26 + 1 = 27 := ⟨by decide +kernel, rfl⟩
theorem d_St_goOnFrom_27 : decode m_St_goOnFrom.2.1 27 = .ok (.istore 4, 2) ∧ 27 + 2 = 29 := ⟨by decide +kernel, rfl⟩
theorem d_St_goOnFrom_29 : decode m_St_goOnFrom.2.1 29 = .ok (.aload_n 0, 1) ∧ 29 + 1 = 30 := ⟨by decide +kernel, rfl⟩
theorem d_St_goOnFrom_30 : decode m_St_goOnFrom.2.1 30 = .ok (.getfield 38, 3) ∧ 30 + 3 = 33 := ⟨by decide +kernel, rfl⟩
theorem d_St_goOnFrom_33 : decode m_St_goOnFrom.2.1 33 = .ok (.iload_n 2, 1) ∧ 33 + 1 = 34 := ⟨by decide +kernel, rfl⟩
theorem d_St_goOnFrom_34 : decode m_St_goOnFrom.2.1 34 = .ok (.iaload, 1) ∧ 34 + 1 = 35 := ⟨by decide +kernel, rfl⟩
theorem d_St_goOnFrom_35 : decode m_St_goOnFrom.2.1 35 = .ok (.aload_n 0, 1) ∧ 35 + 1 = 36 := ⟨by decide +kernel, rfl⟩
theorem d_St_goOnFrom_36 : decode m_St_goOnFrom.2.1 36 = .ok (.getfield 38, 3) ∧ 36 + 3 = 39 := ⟨by decide +kernel, rfl⟩
theorem d_St_goOnFrom_39 : decode m_St_goOnFrom.2.1 39 = .ok (.iload_n 3, 1) ∧ 39 + 1 = 40 := ⟨by decide +kernel, rfl⟩
theorem d_St_goOnFrom_40 : decode m_St_goOnFrom.2.1 40 = .ok (.iaload, 1) ∧ 40 + 1 = 41 := ⟨by decide +kernel, rfl⟩
theorem d_St_goOnFrom_41 : decode m_St_goOnFrom.2.1 41 = .ok (.isub, 1) ∧ 41 + 1 = 42 := ⟨by decide +kernel, rfl⟩
theorem d_St_goOnFrom_42 : decode m_St_goOnFrom.2.1 42 = .ok (.istore 5, 2) ∧ 42 + 2 = 44 := ⟨by decide +kernel, rfl⟩
theorem d_St_goOnFrom_44 : decode m_St_goOnFrom.2.1 44 = .ok (.iload 4, 2) ∧ 44 + 2 = 46 := ⟨by decide +kernel, rfl⟩
theorem d_St_goOnFrom_46 : decode m_St_goOnFrom.2.1 46 = .ok (.ifCond .ne 29, 3) ∧ 46 + 3 = 49 ∧ (((46 : Nat) : Int) + (29) = ((75 : Nat) : Int)) := ⟨by decide +kernel, rfl, by decide⟩
theorem d_St_goOnFrom_49 : decode m_St_goOnFrom.2.1 49 = .ok (.aload_n 1, 1) ∧ 49 + 1 = 50 := ⟨by decide +kernel, rfl⟩
theorem d_St_goOnFrom_50 : decode m_St_goOnFrom.2.1 50 = .ok (.lconst 0, 1) ∧ 50 + 1 = 51 := ⟨by decide +kernel, rfl⟩
theorem d_St_goOnFrom_51 : decode m_St_goOnFrom.2.1 51 = .ok (.iconst 2, 1) ∧ 51 + 1 = 52 := ⟨by decide +kernel, rfl⟩
theorem d_St_goOnFrom_52 : decode m_St_goOnFrom.2.1 52 = .ok (.iload 5, 2) ∧ 52 + 2 = 54 := ⟨by decide +kernel, rfl⟩
theorem d_St_goOnFrom_54 : decode m_St_goOnFrom.2.1 54 = .ok (.imul, 1) ∧ 54 + 1 = 55 := ⟨by decide +kernel, rfl⟩
theorem d_St_goOnFrom_55 : decode m_St_goOnFrom.2.1 55 = .ok (.i2l, 1) ∧ 55 + 1 = 56 := ⟨by decide +kernel, rfl⟩
theorem d_St_goOnFrom_56 : decode m_St_goOnFrom.2.1 56 = .ok (.aload_n 0, 1) ∧ 56 + 1 = 57 := ⟨by decide +kernel, rfl⟩
theorem d_St_goOnFrom_57 : decode m_St_goOnFrom.2.1 57 = .ok (.getfield 41, 3) ∧ 57 + 3 = 60 := ⟨by decide +kernel, rfl⟩
theorem d_St_goOnFrom_60 : decode m_St_goOnFrom.2.1 60 = .ok (.iload_n 2, 1) ∧ 60 + 1 = 61 := ⟨by decide +kernel, rfl⟩
theorem d_St_goOnFrom_61 : decode m_St_goOnFrom.2.1 61 = .ok (.iaload, 1) ∧ 61 + 1 = 62 := ⟨by decide +kernel, rfl⟩
theorem d_St_goOnFrom_62 : decode m_St_goOnFrom.2.1 62 = .ok (.aload_n 0, 1) ∧ 62 + 1 = 63 := ⟨by decide +kernel, rfl⟩
theorem d_St_goOnFrom_63 : decode m_St_goOnFrom.2.1 63 = .ok (.getfield 41, 3) ∧ 63 + 3 = 66 := ⟨by decide +kernel, rfl⟩
theorem d_St_goOnFrom_66 : decode m_St_goOnFrom.2.1 66 = .ok (.iload_n 3, 1) ∧ 66 + 1 = 67 := ⟨by decide +kernel, rfl⟩
theorem d_St_goOnFrom_67 : decode m_St_goOnFrom.2.1 67 = .ok (.iaload, 1) ∧ 67 + 1 = 68 := ⟨by decide +kernel, rfl⟩
theorem d_St_goOnFrom_68 : decode m_St_goOnFrom.2.1 68 = .ok (.isub, 1) ∧ 68 + 1 = 69 := ⟨by decide +kernel, rfl⟩
theorem d_St_goOnFrom_69 : decode m_St_goOnFrom.2.1 69 = .ok (.i2l, 1) ∧ 69 + 1 = 70 := ⟨by decide +kernel, rfl⟩
theorem d_St_goOnFrom_70 : decode m_St_goOnFrom.2.1 70 = .ok (.invokevirtual 135, 3) ∧ 70 + 3 = 73 := ⟨by decide +kernel, rfl⟩
theorem d_St_goOnFrom_73 : decode m_St_goOnFrom.2.1 73 = .ok (.istore 4, 2) ∧ 73 + 2 = 75 := ⟨by decide +kernel, rfl⟩
theorem d_St_goOnFrom_75 : decode m_St_goOnFrom.2.1 75 = .ok (.aload_n 0, 1) ∧ 75 + 1 = 76 := ⟨by decide +kernel, rfl⟩
theorem d_St_goOnFrom_76 : decode m_St_goOnFrom.2.1 76 = .ok (.iload_n 2, 1) ∧ 76 + 1 = 77 := ⟨by decide +kernel, rfl⟩
theorem d_St_goOnFrom_77 : decode m_St_goOnFrom.2.1 77 = .ok (.iload_n 3, 1) ∧ 77 + 1 = 78 := ⟨by decide +kernel, rfl⟩
theorem d_St_goOnFrom_78 : decode m_St_goOnFrom.2.1 78 = .ok (.iload 4, 2) ∧ 78 + 2 = 80 := ⟨by decide +kernel, rfl⟩
theorem d_St_goOnFrom_80 : decode m_St_goOnFrom.2.1 80 = .ok (.ifCond .ne 12, 3) ∧ 80 + 3 = 83 ∧ (((80 : Nat) : Int) + (12) = ((92 : Nat) : Int)) := ⟨by decide +kernel, rfl, by decide⟩
theorem d_St_goOnFrom_83 : decode m_St_goOnFrom.2.1 83 = .ok (.iload 5, 2) ∧ 83 + 2 = 85 := ⟨by decide +kernel, rfl⟩
theorem d_St_goOnFrom_85 : decode m_St_goOnFrom.2.1 85 = .ok (.iconst 0, 1) ∧ 85 + 1 = 86 := ⟨by decide +kernel, rfl⟩
theorem d_St_goOnFrom_86 : decode m_St_goOnFrom.2.1 86 = .ok (.invokestatic 125, 3) ∧ 86 + 3 = 89 := ⟨by decide +kernel, rfl⟩
theorem d_St_goOnFrom_89 : decode m_St_goOnFrom.2.1 89 = .ok (.goto 5, 3) ∧ (((89 : Nat) : Int) + (5) = ((94 : Nat) : Int)) := ⟨by decide +kernel, by decide⟩
theorem d_St_goOnFrom_92 : decode m_St_goOnFrom.2.1 92 = .ok (.iload 4, 2) ∧ 92 + 2 = 94 := ⟨by decide +kernel, rfl⟩
theorem d_St_goOnFrom_94 : decode m_St_goOnFrom.2.1 94 = .ok (.invokevirtual 131, 3) ∧ 94 + 3 = 97 := ⟨by decide +kernel, rfl⟩
theorem d_St_goOnFrom_97 : decode m_St_goOnFrom.2.1 97 = .ok (.iinc 3 1, 3) ∧ 97 + 3 = 100 := ⟨by decide +kernel, rfl⟩
theorem d_St_goOnFrom_100 : decode m_St_goOnFrom.2.1 100 = .ok (.goto (-88), 3) ∧ (((100 : Nat) : Int) + (-88) = ((12 : Nat) : Int)) := ⟨by decide +kernel, by decide⟩
theorem d_St_goOnFrom_103 : decode m_St_goOnFrom.2.1 103 = .ok (.iinc 2 1, 3) ∧ 103 + 3 = 106 := ⟨by decide +kernel, rfl⟩
theorem d_St_goOnFrom_106 : decode m_St_goOnFrom.2.1 106 = .ok (.goto (-104), 3) ∧ (((106 : Nat) : Int) + (-104) = ((2 : Nat) : Int)) := ⟨by decide +kernel, by decide⟩
theorem d_St_goOnFrom_109 : decode m_St_goOnFrom.2.1 109 = .ok (.return_, 1) := by decide +kernel
theorem d_St_note_0 : decode m_St_note.2.1 0 = .ok (.aload_n 0, 1) ∧ 0 + 1 = 1 := ⟨by decide +kernel, rfl⟩
theorem d_St_note_1 : decode m_St_note.2.1 1 = .ok (.getfield 47, 3) ∧ 1 + 3 = 4 := ⟨by decide +kernel, rfl⟩
theorem d_St_note_4 : decode m_St_note.2.1 4 = .ok (.iconst 4, 1) ∧ 4 + 1 = 5 := ⟨by decide +kernel, rfl⟩
theorem d_St_note_5 : decode m_St_note.2.1 5 = .ok (.iload_n 1, 1) ∧ 5 + 1 = 6 := ⟨by decide +kernel, rfl⟩
theorem d_St_note_6 : decode m_St_note.2.1 6 = .ok (.imul, 1) ∧ 6 + 1 = 7 := ⟨by decide +kernel, rfl⟩
theorem d_St_note_7 : decode m_St_note.2.1 7 = .ok (.iload_n 2, 1) ∧ 7 + 1 = 8 := ⟨by decide +kernel, rfl⟩
theorem d_St_note_8 : decode m_St_note.2.1 8 = .ok (.iadd, 1) ∧ 8 + 1 = 9 := ⟨by decide +kernel, rfl⟩
theorem d_St_note_9 : decode m_St_note.2.1 9 = .ok (.iload_n 3, 1) ∧ 9 + 1 = 10 := ⟨by decide +kernel, rfl⟩
theorem d_St_note_10 : decode m_St_note.2.1 10 = .ok (.iastore, 1) ∧ 10 + 1 = 11 := ⟨by decide +kernel, rfl⟩
theorem d_St_note_11 : decode m_St_note.2.1 11 = .ok (.aload_n 0, 1) ∧ 11 + 1 = 12 := ⟨by decide +kernel, rfl⟩
theorem d_St_note_12 : decode m_St_note.2.1 12 = .ok (.getfield 47, 3) ∧ 12 + 3 = 15 := ⟨by decide +kernel, rfl⟩
theorem d_St_note_15 : decode m_St_note.2.1 15 = .ok (.iconst 4, 1) ∧ 15 + 1 = 16 := ⟨by decide +kernel, rfl⟩
theorem d_St_note_16 : decode m_St_note.2.1 16 = .ok (.iload_n 2, 1) ∧ 16 + 1 = 17 := ⟨by decide +kernel, rfl⟩
theorem d_St_note_17 : decode m_St_note.2.1 17 = .ok (.imul, 1) ∧ 17 + 1 = 18 := ⟨by decide +kernel, rfl⟩
theorem d_St_note_18 : decode m_St_note.2.1 18 = .ok (.iload_n 1, 1) ∧ 18 + 1 = 19 := ⟨by decide +kernel, rfl⟩
theorem d_St_note_19 : decode m_St_note.2.1 19 = .ok (.iadd, 1) ∧ 19 + 1 = 20 := ⟨by decide +kernel, rfl⟩
theorem d_St_note_20 : decode m_St_note.2.1 20 = .ok (.iload_n 3, 1) ∧ 20 + 1 = 21 := ⟨by decide +kernel, rfl⟩
theorem d_St_note_21 : decode m_St_note.2.1 21 = .ok (.ineg, 1) ∧ 21 + 1 = 22 := ⟨by decide +kernel, rfl⟩
theorem d_St_note_22 : decode m_St_note.2.1 22 = .ok (.iastore, 1) ∧ 22 + 1 = 23 := ⟨by decide +kernel, rfl⟩
theorem d_St_note_23 : decode m_St_note.2.1 23 = .ok (.return_, 1) := by decide +kernel
theorem d_St_settle_0 : decode m_St_settle.2.1 0 = .ok (.iconst 0, 1) ∧ 0 + 1 = 1 := ⟨by decide +kernel, rfl⟩
theorem d_St_settle_1 : decode m_St_settle.2.1 1 = .ok (.istore_n 2, 1) ∧ 1 + 1 = 2 := ⟨by decide +kernel, rfl⟩
theorem d_St_settle_2 : decode m_St_settle.2.1 2 = .ok (.iconst 0, 1) ∧ 2 + 1 = 3 := ⟨by decide +kernel, rfl⟩
theorem d_St_settle_3 : decode m_St_settle.2.1 3 = .ok (.istore_n 3, 1) ∧ 3 + 1 = 4 := ⟨by decide +kernel, rfl⟩
theorem d_St_settle_4 : decode m_St_settle.2.1 4 = .ok (.iload_n 3, 1) ∧ 4 + 1 = 5 := ⟨by decide +kernel, rfl⟩
theorem d_St_settle_5 : decode m_St_settle.2.1 5 = .ok (.aload_n 0, 1) ∧ 5 + 1 = 6 := ⟨by decide +kernel, rfl⟩
theorem d_St_settle_6 : decode m_St_settle.2.1 6 = .ok (.getfield 24, 3) ∧ 6 + 3 = 9 := ⟨by decide +kernel, rfl⟩
theorem d_St_settle_9 : decode m_St_settle.2.1 9 = .ok (.if_icmp .ge 39, 3) ∧ 9 + 3 = 12 ∧ (((9 : Nat) : Int) + (39) = ((48 : Nat) : Int)) := ⟨by decide +kernel, rfl, by decide⟩
theorem d_St_settle_12 : decode m_St_settle.2.1 12 = .ok (.aload_n 0, 1) ∧ 12 + 1 = 13 := ⟨by decide +kernel, rfl⟩
theorem d_St_settle_13 : decode m_St_settle.2.1 13 = .ok (.iload_n 3, 1) ∧ 13 + 1 = 14 := ⟨by decide +kernel, rfl⟩
theorem d_St_settle_14 : decode m_St_settle.2.1 14 = .ok (.invokevirtual 139, 3) ∧ 14 + 3 = 17 := ⟨by decide +kernel, rfl⟩
theorem d_St_settle_17 : decode m_St_settle.2.1 17 = .ok (.ifCond .eq 6, 3) ∧ 17 + 3 = 20 ∧ (((17 : Nat) : Int) + (6) = ((23 : Nat) : Int)) := ⟨by decide +kernel, rfl, by decide⟩
theorem d_St_settle_20 : decode m_St_settle.2.1 20 = .ok (.iinc 2 1, 3) ∧ 20 + 3 = 23 := ⟨by decide +kernel, rfl⟩
theorem d_St_settle_23 : decode m_St_settle.2.1 23 = .ok (.aload_n 0, 1) ∧ 23 + 1 = 24 := ⟨by decide +kernel, rfl⟩
theorem d_St_settle_24 : decode m_St_settle.2.1 24 = .ok (.getfield 31, 3) ∧ 24 + 3 = 27 := ⟨by decide +kernel, rfl⟩
theorem d_St_settle_27 : decode m_St_settle.2.1 27 = .ok (.iconst 4, 1) ∧ 27 + 1 = 28 := ⟨by decide +kernel, rfl⟩
theorem d_St_settle_28 : decode m_St_settle.2.1 28 = .ok (.iload_n 1, 1) ∧ 28 + 1 = 29 := ⟨by decide +kernel, rfl⟩
theorem d_St_settle_29 : decode m_St_settle.2.1 29 = .ok (.imul, 1) ∧ 29 + 1 = 30 := ⟨by decide +kernel, rfl⟩
theorem d_St_settle_30 : decode m_St_settle.2.1 30 = .ok (.iload_n 3, 1) ∧ 30 + 1 = 31 := ⟨by decide +kernel, rfl⟩
theorem d_St_settle_31 : decode m_St_settle.2.1 31 = .ok (.iadd, 1) ∧ 31 + 1 = 32 := ⟨by decide +kernel, rfl⟩
theorem d_St_settle_32 : decode m_St_settle.2.1 32 = .ok (.iconst 2, 1) ∧ 32 + 1 = 33 := ⟨by decide +kernel, rfl⟩
theorem d_St_settle_33 : decode m_St_settle.2.1 33 = .ok (.aload_n 0, 1) ∧ 33 + 1 = 34 := ⟨by decide +kernel, rfl⟩
theorem d_St_settle_34 : decode m_St_settle.2.1 34 = .ok (.iload_n 3, 1) ∧ 34 + 1 = 35 := ⟨by decide +kernel, rfl⟩
theorem d_St_settle_35 : decode m_St_settle.2.1 35 = .ok (.invokevirtual 143, 3) ∧ 35 + 3 = 38 := ⟨by decide +kernel, rfl⟩
theorem d_St_settle_38 : decode m_St_settle.2.1 38 = .ok (.imul, 1) ∧ 38 + 1 = 39 := ⟨by decide +kernel, rfl⟩
theorem d_St_settle_39 : decode m_St_settle.2.1 39 = .ok (.iconst 1, 1) ∧ 39 + 1 = 40 := ⟨by decide +kernel, rfl⟩
theorem d_St_settle_40 : decode m_St_settle.2.1 40 = .ok (.iadd, 1) ∧ 40 + 1 = 41 := ⟨by decide +kernel, rfl⟩
theorem d_St_settle_41 : decode m_St_settle.2.1 41 = .ok (.iastore, 1) ∧ 41 + 1 = 42 := ⟨by decide +kernel, rfl⟩
theorem d_St_settle_42 : decode m_St_settle.2.1 42 = .ok (.iinc 3 1, 3) ∧ 42 + 3 = 45 := ⟨by decide +kernel, rfl⟩
theorem d_St_settle_45 : decode m_St_settle.2.1 45 = .ok (.goto (-41), 3) ∧ (((45 : Nat) : Int) + (-41) = ((4 : Nat) : Int)) := ⟨by decide +kernel, by decide⟩
theorem d_St_settle_48 : decode m_St_settle.2.1 48 = .ok (.aload_n 0, 1) ∧ 48 + 1 = 49 := ⟨by decide +kernel, rfl⟩
theorem d_St_settle_49 : decode m_St_settle.2.1 49 = .ok (.getfield 27, 3) ∧ 49 + 3 = 52 := ⟨by decide +kernel, rfl⟩
theorem d_St_settle_52 : decode m_St_settle.2.1 52 = .ok (.iload_n 1, 1) ∧ 52 + 1 = 53 := ⟨by decide +kernel, rfl⟩
theorem d_St_settle_53 : decode m_St_settle.2.1 53 = .ok (.iconst 2, 1) ∧ 53 + 1 = 54 := ⟨by decide +kernel, rfl⟩
theorem d_St_settle_54 : decode m_St_settle.2.1 54 = .ok (.iload_n 2, 1) ∧ 54 + 1 = 55 := ⟨by decide +kernel, rfl⟩
theorem d_St_settle_55 : decode m_St_settle.2.1 55 = .ok (.imul, 1) ∧ 55 + 1 = 56 := ⟨by decide +kernel, rfl⟩
theorem d_St_settle_56 : decode m_St_settle.2.1 56 = .ok (.iastore, 1) ∧ 56 + 1 = 57 := ⟨by decide +kernel, rfl⟩
theorem d_St_settle_57 : decode m_St_settle.2.1 57 = .ok (.return_, 1) := by decide +kernel
theorem d_St_isFirstOfItsY_0 : decode m_St_isFirstOfItsY.2.1 0 = .ok (.iconst 0, 1) ∧ 0 + 1 = 1 := ⟨by decide +kernel, rfl⟩
theorem d_St_isFirstOfItsY_1 : decode m_St_isFirstOfItsY.2.1 1 = .ok (.istore_n 2, 1) ∧ 1 + 1 = 2 := ⟨by decide +kernel, rfl⟩
theorem d_St_isFirstOfItsY_2 : decode m_St_isFirstOfItsY.2.1 2 = .ok (.iload_n 2, 1) ∧ 2 + 1 = 3 := ⟨by decide +kernel, rfl⟩
theorem d_St_isFirstOfItsY_3 : decode m_St_isFirstOfItsY.2.1 3 = .ok (.iload_n 1, 1) ∧ 3 + 1 = 4 := ⟨by decide +kernel, rfl⟩
theorem d_St_isFirstOfItsY_4 : decode m_St_isFirstOfItsY.2.1 4 = .ok (.if_icmp .ge 33, 3) ∧ 4 + 3 = 7 ∧ (((4 : Nat) : Int) + (33) = ((37 : Nat) : Int)) := ⟨by decide +kernel, rfl, by decide⟩
theorem d_St_isFirstOfItsY_7 : decode m_St_isFirstOfItsY.2.1 7 = .ok (.aload_n 0, 1) ∧ 7 + 1 = 8 := ⟨by decide +kernel, rfl⟩
theorem d_St_isFirstOfItsY_8 : decode m_St_isFirstOfItsY.2.1 8 = .ok (.getfield 34, 3) ∧ 8 + 3 = 11 := ⟨by decide +kernel, rfl⟩
theorem d_St_isFirstOfItsY_11 : decode m_St_isFirstOfItsY.2.1 11 = .ok (.iload_n 2, 1) ∧ 11 + 1 = 12 := ⟨by decide +kernel, rfl⟩
theorem d_St_isFirstOfItsY_12 : decode m_St_isFirstOfItsY.2.1 12 = .ok (.baload, 1) ∧ 12 + 1 = 13 := ⟨by decide +kernel, rfl⟩
theorem d_St_isFirstOfItsY_13 : decode m_St_isFirstOfItsY.2.1 13 = .ok (.ifCond .ne 18, 3) ∧ 13 + 3 = 16 ∧ (((13 : Nat) : Int) + (18) = ((31 : Nat) : Int)) := ⟨by decide +kernel, rfl, by decide⟩
theorem d_St_isFirstOfItsY_16 : decode m_St_isFirstOfItsY.2.1 16 = .ok (.aload_n 0, 1) ∧ 16 + 1 = 17 := ⟨by decide +kernel, rfl⟩
theorem d_St_isFirstOfItsY_17 : decode m_St_isFirstOfItsY.2.1 17 = .ok (.getfield 47, 3) ∧ 17 + 3 = 20 := ⟨by decide +kernel, rfl⟩
theorem d_St_isFirstOfItsY_20 : decode m_St_isFirstOfItsY.2.1 20 = .ok (.iconst 4, 1) ∧ 20 + 1 = 21 := ⟨by decide +kernel, rfl⟩
theorem d_St_isFirstOfItsY_21 : decode m_St_isFirstOfItsY.2.1 21 = .ok (.iload_n 1, 1) ∧ 21 + 1 = 22 := ⟨by decide +kernel, rfl⟩
theorem d_St_isFirstOfItsY_22 : decode m_St_isFirstOfItsY.2.1 22 = .ok (.imul, 1) ∧ 22 + 1 = 23 := ⟨by decide +kernel, rfl⟩
theorem d_St_isFirstOfItsY_23 : decode m_St_isFirstOfItsY.2.1 23 = .ok (.iload_n 2, 1) ∧ 23 + 1 = 24 := ⟨by decide +kernel, rfl⟩
theorem d_St_isFirstOfItsY_24 : decode m_St_isFirstOfItsY.2.1 24 = .ok (.iadd, 1) ∧ 24 + 1 = 25 := ⟨by decide +kernel, rfl⟩
theorem d_St_isFirstOfItsY_25 : decode m_St_isFirstOfItsY.2.1 25 = .ok (.iaload, 1) ∧ 25 + 1 = 26 := ⟨by decide +kernel, rfl⟩
theorem d_St_isFirstOfItsY_26 : decode m_St_isFirstOfItsY.2.1 26 = .ok (.ifCond .ne 5, 3) ∧ 26 + 3 = 29 ∧ (((26 : Nat) : Int) + (5) = ((31 : Nat) : Int)) := ⟨by decide +kernel, rfl, by decide⟩
theorem d_St_isFirstOfItsY_29 : decode m_St_isFirstOfItsY.2.1 29 = .ok (.iconst 0, 1) ∧ 29 + 1 = 30 := ⟨by decide +kernel, rfl⟩
theorem d_St_isFirstOfItsY_30 : decode m_St_isFirstOfItsY.2.1 30 = .ok (.ireturn, 1) := by decide +kernel
theorem d_St_isFirstOfItsY_31 : decode m_St_isFirstOfItsY.2.1 31 = .ok (.iinc 2 1, 3) ∧ 31 + 3 = 34 := ⟨by decide +kernel, rfl⟩
theorem d_St_isFirstOfItsY_34 : decode m_St_isFirstOfItsY.2.1 34 = .ok (.goto (-32), 3) ∧ (((34 : Nat) : Int) + (-32) = ((2 : Nat) : Int)) := ⟨by decide +kernel, by decide⟩
theorem d_St_isFirstOfItsY_37 : decode m_St_isFirstOfItsY.2.1 37 = .ok (.aload_n 0, 1) ∧ 37 + 1 = 38 := ⟨by decide +kernel, rfl⟩
theorem d_St_isFirstOfItsY_38 : decode m_St_isFirstOfItsY.2.1 38 = .ok (.getfield 34, 3) ∧ 38 + 3 = 41 := ⟨by decide +kernel, rfl⟩
theorem d_St_isFirstOfItsY_41 : decode m_St_isFirstOfItsY.2.1 41 = .ok (.iload_n 1, 1) ∧ 41 + 1 = 42 := ⟨by decide +kernel, rfl⟩
theorem d_St_isFirstOfItsY_42 : decode m_St_isFirstOfItsY.2.1 42 = .ok (.baload, 1) ∧ 42 + 1 = 43 := ⟨by decide +kernel, rfl⟩
theorem d_St_isFirstOfItsY_43 : decode m_St_isFirstOfItsY.2.1 43 = .ok (.ifCond .ne 7, 3) ∧ 43 + 3 = 46 ∧ (((43 : Nat) : Int) + (7) = ((50 : Nat) : Int)) := ⟨by decide +kernel, rfl, by decide⟩
theorem d_St_isFirstOfItsY_46 : decode m_St_isFirstOfItsY.2.1 46 = .ok (.iconst 1, 1) ∧ 46 + 1 = 47 := ⟨by decide +kernel, rfl⟩
theorem d_St_isFirstOfItsY_47 : decode m_St_isFirstOfItsY.2.1 47 = .ok (.goto 4, 3) ∧ (((47 : Nat) : Int) + (4) = ((51 : Nat) : Int)) := ⟨by decide +kernel, by decide⟩
theorem d_St_isFirstOfItsY_50 : decode m_St_isFirstOfItsY.2.1 50 = .ok (.iconst 0, 1) ∧ 50 + 1 = 51 := ⟨by decide +kernel, rfl⟩
theorem d_St_isFirstOfItsY_51 : decode m_St_isFirstOfItsY.2.1 51 = .ok (.ireturn, 1) := by decide +kernel
theorem d_St_sectionsBelow_0 : decode m_St_sectionsBelow.2.1 0 = .ok (.iconst 0, 1) ∧ 0 + 1 = 1 := ⟨by decide +kernel, rfl⟩
theorem d_St_sectionsBelow_1 : decode m_St_sectionsBelow.2.1 1 = .ok (.istore_n 2, 1) ∧ 1 + 1 = 2 := ⟨by decide +kernel, rfl⟩
theorem d_St_sectionsBelow_2 : decode m_St_sectionsBelow.2.1 2 = .ok (.iconst 0, 1) ∧ 2 + 1 = 3 := ⟨by decide +kernel, rfl⟩
theorem d_St_sectionsBelow_3 : decode m_St_sectionsBelow.2.1 3 = .ok (.istore_n 3, 1) ∧ 3 + 1 = 4 := ⟨by decide +kernel, rfl⟩
theorem d_St_sectionsBelow_4 : decode m_St_sectionsBelow.2.1 4 = .ok (.iload_n 3, 1) ∧ 4 + 1 = 5 := ⟨by decide +kernel, rfl⟩
theorem d_St_sectionsBelow_5 : decode m_St_sectionsBelow.2.1 5 = .ok (.aload_n 0, 1) ∧ 5 + 1 = 6 := ⟨by decide +kernel, rfl⟩
theorem d_St_sectionsBelow_6 : decode m_St_sectionsBelow.2.1 6 = .ok (.getfield 24, 3) ∧ 6 + 3 = 9 := ⟨by decide +kernel, rfl⟩
theorem d_St_sectionsBelow_9 : decode m_St_sectionsBelow.2.1 9 = .ok (.if_icmp .ge 33, 3) ∧ 9 + 3 = 12 ∧ (((9 : Nat) : Int) + (33) = ((42 : Nat) : Int)) := ⟨by decide +kernel, rfl, by decide⟩
theorem d_St_sectionsBelow_12 : decode m_St_sectionsBelow.2.1 12 = .ok (.aload_n 0, 1) ∧ 12 + 1 = 13 := ⟨by decide +kernel, rfl⟩
theorem d_St_sectionsBelow_13 : decode m_St_sectionsBelow.2.1 13 = .ok (.getfield 47, 3) ∧ 13 + 3 = 16 := ⟨by decide +kernel, rfl⟩
theorem d_St_sectionsBelow_16 : decode m_St_sectionsBelow.2.1 16 = .ok (.iconst 4, 1) ∧ 16 + 1 = 17 := ⟨by decide +kernel, rfl⟩
theorem d_St_sectionsBelow_17 : decode m_St_sectionsBelow.2.1 17 = .ok (.iload_n 1, 1) ∧ 17 + 1 = 18 := ⟨by decide +kernel, rfl⟩
theorem d_St_sectionsBelow_18 : decode m_St_sectionsBelow.2.1 18 = .ok (.imul, 1) ∧ 18 + 1 = 19 := ⟨by decide +kernel, rfl⟩
theorem d_St_sectionsBelow_19 : decode m_St_sectionsBelow.2.1 19 = .ok (.iload_n 3, 1) ∧ 19 + 1 = 20 := ⟨by decide +kernel, rfl⟩
theorem d_St_sectionsBelow_20 : decode m_St_sectionsBelow.2.1 20 = .ok (.iadd, 1) ∧ 20 + 1 = 21 := ⟨by decide +kernel, rfl⟩
theorem d_St_sectionsBelow_21 : decode m_St_sectionsBelow.2.1 21 = .ok (.iaload, 1) ∧ 21 + 1 = 22 := ⟨by decide +kernel, rfl⟩
theorem d_St_sectionsBelow_22 : decode m_St_sectionsBelow.2.1 22 = .ok (.ifCond .le 14, 3) ∧ 22 + 3 = 25 ∧ (((22 : Nat) : Int) + (14) = ((36 : Nat) : Int)) := ⟨by decide +kernel, rfl, by decide⟩
theorem d_St_sectionsBelow_25 : decode m_St_sectionsBelow.2.1 25 = .ok (.aload_n 0, 1) ∧ 25 + 1 = 26 := ⟨by decide +kernel, rfl⟩
theorem d_St_sectionsBelow_26 : decode m_St_sectionsBelow.2.1 26 = .ok (.iload_n 3, 1) ∧ 26 + 1 = 27 := ⟨by decide +kernel, rfl⟩
theorem d_St_sectionsBelow_27 : decode m_St_sectionsBelow.2.1 27 = .ok (.invokevirtual 139, 3) ∧ 27 + 3 = 30 := ⟨by decide +kernel, rfl⟩
theorem d_St_sectionsBelow_30 : decode m_St_sectionsBelow.2.1 30 = .ok (.ifCond .eq 6, 3) ∧ 30 + 3 = 33 ∧ (((30 : Nat) : Int) + (6) = ((36 : Nat) : Int)) := ⟨by decide +kernel, rfl, by decide⟩
theorem d_St_sectionsBelow_33 : decode m_St_sectionsBelow.2.1 33 = .ok (.iinc 2 1, 3) ∧ 33 + 3 = 36 := ⟨by decide +kernel, rfl⟩
theorem d_St_sectionsBelow_36 : decode m_St_sectionsBelow.2.1 36 = .ok (.iinc 3 1, 3) ∧ 36 + 3 = 39 := ⟨by decide +kernel, rfl⟩
theorem d_St_sectionsBelow_39 : decode m_St_sectionsBelow.2.1 39 = .ok (.goto (-35), 3) ∧ (((39 : Nat) : Int) + (-35) = ((4 : Nat) : Int)) := ⟨by decide +kernel, by decide⟩
theorem d_St_sectionsBelow_42 : decode m_St_sectionsBelow.2.1 42 = .ok (.iload_n 2, 1) ∧ 42 + 1 = 43 := ⟨by decide +kernel, rfl⟩
theorem d_St_sectionsBelow_43 : decode m_St_sectionsBelow.2.1 43 = .ok (.ireturn, 1) := by decide +kernel
theorem d_St_placeUprights_0 : decode m_St_placeUprights.2.1 0 = .ok (.iconst 0, 1) ∧ 0 + 1 = 1 := ⟨by decide +kernel, rfl⟩
theorem d_St_placeUprights_1 : decode m_St_placeUprights.2.1 1 = .ok (.istore_n 1, 1) ∧ 1 + 1 = 2 := ⟨by decide +kernel, rfl⟩
theorem d_St_placeUprights_2 : decode m_St_placeUprights.2.1 2 = .ok (.iload_n 1, 1) ∧ 2 + 1 = 3 := ⟨by decide +kernel, rfl⟩
theorem d_St_placeUprights_3 : decode m_St_placeUprights.2.1 3 = .ok (.aload_n 0, 1) ∧ 3 + 1 = 4 := ⟨by decide +kernel, rfl⟩
theorem d_St_placeUprights_4 : decode m_St_placeUprights.2.1 4 = .ok (.getfield 24, 3) ∧ 4 + 3 = 7 := ⟨by decide +kernel, rfl⟩
theorem d_St_placeUprights_7 : decode m_St_placeUprights.2.1 7 = .ok (.if_icmp .ge 56, 3) ∧ 7 + 3 = 10 ∧ (((7 : Nat) : Int) + (56) = ((63 : Nat) : Int)) := ⟨by decide +kernel, rfl, by decide⟩
theorem d_St_placeUprights_10 : decode m_St_placeUprights.2.1 10 = .ok (.aload_n 0, 1) ∧ 10 + 1 = 11 := ⟨by decide +kernel, rfl⟩
theorem d_St_placeUprights_11 : decode m_St_placeUprights.2.1 11 = .ok (.getfield 34, 3) ∧ 11 + 3 = 14 := ⟨by decide +kernel, rfl⟩
theorem d_St_placeUprights_14 : decode m_St_placeUprights.2.1 14 = .ok (.iload_n 1, 1) ∧ 14 + 1 = 15 := ⟨by decide +kernel, rfl⟩
theorem d_St_placeUprights_15 : decode m_St_placeUprights.2.1 15 = .ok (.baload, 1) ∧ 15 + 1 = 16 := ⟨by decide +kernel, rfl⟩
theorem d_St_placeUprights_16 : decode m_St_placeUprights.2.1 16 = .ok (.ifCond .eq 41, 3) ∧ 16 + 3 = 19 ∧ (((16 : Nat) : Int) + (41) = ((57 : Nat) : Int)) := ⟨by decide +kernel, rfl, by decide⟩
theorem d_St_placeUprights_19 : decode m_St_placeUprights.2.1 19 = .ok (.aload_n 0, 1) ∧ 19 + 1 = 20 := ⟨by decide +kernel, rfl⟩
theorem d_St_placeUprights_20 : decode m_St_placeUprights.2.1 20 = .ok (.aload_n 0, 1) ∧ 20 + 1 = 21 := ⟨by decide +kernel, rfl⟩
theorem d_St_placeUprights_21 : decode m_St_placeUprights.2.1 21 = .ok (.getfield 44, 3) ∧ 21 + 3 = 24 := ⟨by decide +kernel, rfl⟩
theorem d_St_placeUprights_24 : decode m_St_placeUprights.2.1 24 = .ok (.iload_n 1, 1) ∧ 24 + 1 = 25 := ⟨by decide +kernel, rfl⟩
theorem d_St_placeUprights_25 : decode m_St_placeUprights.2.1 25 = .ok (.iaload, 1) ∧ 25 + 1 = 26 := ⟨by decide +kernel, rfl⟩
theorem d_St_placeUprights_26 : decode m_St_placeUprights.2.1 26 = .ok (.invokevirtual 146, 3) ∧ 26 + 3 = 29 := ⟨by decide +kernel, rfl⟩
theorem d_St_placeUprights_29 : decode m_St_placeUprights.2.1 29 = .ok (.istore_n 2, 1) ∧ 29 + 1 = 30 := ⟨by decide +kernel, rfl⟩
theorem d_St_placeUprights_30 : decode m_St_placeUprights.2.1 30 = .ok (.iconst 0, 1) ∧ 30 + 1 = 31 := ⟨by decide +kernel, rfl⟩
theorem d_St_placeUprights_31 : decode m_St_placeUprights.2.1 31 = .ok (.istore_n 3, 1) ∧ 31 + 1 = 32 := ⟨by decide +kernel, rfl⟩
theorem d_St_placeUprights_32 : decode m_St_placeUprights.2.1 32 = .ok (.iload_n 3, 1) ∧ 32 + 1 = 33 := ⟨by decide +kernel, rfl⟩
theorem d_St_placeUprights_33 : decode m_St_placeUprights.2.1 33 = .ok (.aload_n 0, 1) ∧ 33 + 1 = 34 := ⟨by decide +kernel, rfl⟩
theorem d_St_placeUprights_34 : decode m_St_placeUprights.2.1 34 = .ok (.getfield 21, 3) ∧ 34 + 3 = 37 := ⟨by decide +kernel, rfl⟩
theorem d_St_placeUprights_37 : decode m_St_placeUprights.2.1 37 = .ok (.if_icmp .ge 20, 3) ∧ 37 + 3 = 40 ∧ (((37 : Nat) : Int) + (20) = ((57 : Nat) : Int)) := ⟨by decide +kernel, rfl, by decide⟩
theorem d_St_placeUprights_40 : decode m_St_placeUprights.2.1 40 = .ok (.aload_n 0, 1) ∧ 40 + 1 = 41 := ⟨by decide +kernel, rfl⟩
theorem d_St_placeUprights_41 : decode m_St_placeUprights.2.1 41 = .ok (.getfield 31, 3) ∧ 41 + 3 = 44 := ⟨by decide +kernel, rfl⟩
theorem d_St_placeUprights_44 : decode m_St_placeUprights.2.1 44 = .ok (.iconst 4, 1) ∧ 44 + 1 = 45 := ⟨by decide +kernel, rfl⟩
theorem d_St_placeUprights_45 : decode m_St_placeUprights.2.1 45 = .ok (.iload_n 3, 1) ∧ 45 + 1 = 46 := ⟨by decide +kernel, rfl⟩
theorem d_St_placeUprights_46 : decode m_St_placeUprights.2.1 46 = .ok (.imul, 1) ∧ 46 + 1 = 47 := ⟨by decide +kernel, rfl⟩
theorem d_St_placeUprights_47 : decode m_St_placeUprights.2.1 47 = .ok (.iload_n 1, 1) ∧ 47 + 1 = 48 := ⟨by decide +kernel, rfl⟩
theorem d_St_placeUprights_48 : decode m_St_placeUprights.2.1 48 = .ok (.iadd, 1) ∧ 48 + 1 = 49 := ⟨by decide +kernel, rfl⟩
theorem d_St_placeUprights_49 : decode m_St_placeUprights.2.1 49 = .ok (.iload_n 2, 1) ∧ 49 + 1 = 50 := ⟨by decide +kernel, rfl⟩
theorem d_St_placeUprights_50 : decode m_St_placeUprights.2.1 50 = .ok (.iastore, 1) ∧ 50 + 1 = 51 := ⟨by decide +kernel, rfl⟩
theorem d_St_placeUprights_51 : decode m_St_placeUprights.2.1 51 = .ok (.iinc 3 1, 3) ∧ 51 + 3 = 54 := ⟨by decide +kernel, rfl⟩
theorem d_St_placeUprights_54 : decode m_St_placeUprights.2.1 54 = .ok (.goto (-22), 3) ∧ (((54 : Nat) : Int) + (-22) = ((32 : Nat) : Int)) := ⟨by decide +kernel, by decide⟩
theorem d_St_placeUprights_57 : decode m_St_placeUprights.2.1 57 = .ok (.iinc 1 1, 3) ∧ 57 + 3 = 60 := ⟨by decide +kernel, rfl⟩
theorem d_St_placeUprights_60 : decode m_St_placeUprights.2.1 60 = .ok (.goto (-58), 3) ∧ (((60 : Nat) : Int) + (-58) = ((2 : Nat) : Int)) := ⟨by decide +kernel, by decide⟩
theorem d_St_placeUprights_63 : decode m_St_placeUprights.2.1 63 = .ok (.return_, 1) := by decide +kernel
theorem d_St_stackAt_0 : decode m_St_stackAt.2.1 0 = .ok (.iconst 0, 1) ∧ 0 + 1 = 1 := ⟨by decide +kernel, rfl⟩
theorem d_St_stackAt_1 : decode m_St_stackAt.2.1 1 = .ok (.istore_n 2, 1) ∧ 1 + 1 = 2 := ⟨by decide +kernel, rfl⟩
theorem d_St_stackAt_2 : decode m_St_stackAt.2.1 2 = .ok (.iload_n 2, 1) ∧ 2 + 1 = 3 := ⟨by decide +kernel, rfl⟩
theorem d_St_stackAt_3 : decode m_St_stackAt.2.1 3 = .ok (.aload_n 0, 1) ∧ 3 + 1 = 4 := ⟨by decide +kernel, rfl⟩
theorem d_St_stackAt_4 : decode m_St_stackAt.2.1 4 = .ok (.getfield 17, 3) ∧ 4 + 3 = 7 := ⟨by decide +kernel, rfl⟩
theorem d_St_stackAt_7 : decode m_St_stackAt.2.1 7 = .ok (.if_icmp .ge 32, 3) ∧ 7 + 3 = 10 ∧ (((7 : Nat) : Int) + (32) = ((39 : Nat) : Int)) := ⟨by decide +kernel, rfl, by decide⟩
theorem d_St_stackAt_10 : decode m_St_stackAt.2.1 10 = .ok (.aload_n 0, 1) ∧ 10 + 1 = 11 := ⟨by decide +kernel, rfl⟩
theorem d_St_stackAt_11 : decode m_St_stackAt.2.1 11 = .ok (.getfield 11, 3) ∧ 11 + 3 = 14 := ⟨by decide +kernel, rfl⟩
theorem d_St_stackAt_14 : decode m_St_stackAt.2.1 14 = .ok (.iload_n 2, 1) ∧ 14 + 1 = 15 := ⟨by decide +kernel, rfl⟩
theorem d_St_stackAt_15 : decode m_St_stackAt.2.1 15 = .ok (.aaload, 1) ∧ 15 + 1 = 16 := ⟨by decide +kernel, rfl⟩
theorem d_St_stackAt_16 : decode m_St_stackAt.2.1 16 = .ok (.lconst 0, 1) ∧ 16 + 1 = 17 := ⟨by decide +kernel, rfl⟩
theorem d_St_stackAt_17 : decode m_St_stackAt.2.1 17 = .ok (.lconst 1, 1) ∧ 17 + 1 = 18 := ⟨by decide +kernel, rfl⟩
theorem d_St_stackAt_18 : decode m_St_stackAt.2.1 18 = .ok (.iload_n 1, 1) ∧ 18 + 1 = 19 := ⟨by decide +kernel, rfl⟩
theorem d_St_stackAt_19 : decode m_St_stackAt.2.1 19 = .ok (.ineg, 1) ∧ 19 + 1 = 20 := ⟨by decide +kernel, rfl⟩
theorem d_St_stackAt_20 : decode m_St_stackAt.2.1 20 = .ok (.i2l, 1) ∧ 20 + 1 = 21 := ⟨by decide +kernel, rfl⟩
theorem d_St_stackAt_21 : decode m_St_stackAt.2.1 21 = .ok (.invokevirtual 135, 3) ∧ 21 + 3 = 24 := ⟨by decide +kernel, rfl⟩
theorem d_St_stackAt_24 : decode m_St_stackAt.2.1 24 = .ok (.ifCond .ne 9, 3) ∧ 24 + 3 = 27 ∧ (((24 : Nat) : Int) + (9) = ((33 : Nat) : Int)) := ⟨by decide +kernel, rfl, by decide⟩
theorem d_St_stackAt_27 : decode m_St_stackAt.2.1 27 = .ok (.iconst 2, 1) ∧ 27 + 1 = 28 := ⟨by decide +kernel, rfl⟩
theorem d_St_stackAt_28 : decode m_St_stackAt.2.1 28 = .ok (.iload_n 2, 1) ∧ 28 + 1 = 29 := ⟨by decide +kernel, rfl⟩
theorem d_St_stackAt_29 : decode m_St_stackAt.2.1 29 = .ok (.imul, 1) ∧ 29 + 1 = 30 := ⟨by decide +kernel, rfl⟩
theorem d_St_stackAt_30 : decode m_St_stackAt.2.1 30 = .ok (.iconst 1, 1) ∧ 30 + 1 = 31 := ⟨by decide +kernel, rfl⟩
theorem d_St_stackAt_31 : decode m_St_stackAt.2.1 31 = .ok (.iadd, 1) ∧ 31 + 1 = 32 := ⟨by decide +kernel, rfl⟩
theorem d_St_stackAt_32 : decode m_St_stackAt.2.1 32 = .ok (.ireturn, 1) := by decide +kernel
theorem d_St_stackAt_33 : decode m_St_stackAt.2.1 33 = .ok (.iinc 2 1, 3) ∧ 33 + 3 = 36 := ⟨by decide +kernel, rfl⟩
theorem d_St_stackAt_36 : decode m_St_stackAt.2.1 36 = .ok (.goto (-34), 3) ∧ (((36 : Nat) : Int) + (-34) = ((2 : Nat) : Int)) := ⟨by decide +kernel, by decide⟩
theorem d_St_stackAt_39 : decode m_St_stackAt.2.1 39 = .ok (.iconst 0, 1) ∧ 39 + 1 = 40 := ⟨by decide +kernel, rfl⟩
theorem d_St_stackAt_40 : decode m_St_stackAt.2.1 40 = .ok (.ireturn, 1) := by decide +kernel
theorem d_St_has_0 : decode m_St_has.2.1 0 = .ok (.iload_n 1, 1) ∧ 0 + 1 = 1 := ⟨by decide +kernel, rfl⟩
theorem d_St_has_1 : decode m_St_has.2.1 1 = .ok (.ifCond .lt 15, 3) ∧ 1 + 3 = 4 ∧ (((1 : Nat) : Int) + (15) = ((16 : Nat) : Int)) := ⟨by decide +kernel, rfl, by decide⟩
theorem d_St_has_4 : decode m_St_has.2.1 4 = .ok (.iload_n 1, 1) ∧ 4 + 1 = 5 := ⟨by decide +kernel, rfl⟩
theorem d_St_has_5 : decode m_St_has.2.1 5 = .ok (.aload_n 0, 1) ∧ 5 + 1 = 6 := ⟨by decide +kernel, rfl⟩
theorem d_St_has_6 : decode m_St_has.2.1 6 = .ok (.getfield 21, 3) ∧ 6 + 3 = 9 := ⟨by decide +kernel, rfl⟩
theorem d_St_has_9 : decode m_St_has.2.1 9 = .ok (.if_icmp .ge 7, 3) ∧ 9 + 3 = 12 ∧ (((9 : Nat) : Int) + (7) = ((16 : Nat) : Int)) := ⟨by decide +kernel, rfl, by decide⟩
theorem d_St_has_12 : decode m_St_has.2.1 12 = .ok (.iconst 1, 1) ∧ 12 + 1 = 13 := ⟨by decide +kernel, rfl⟩
theorem d_St_has_13 : decode m_St_has.2.1 13 = .ok (.goto 4, 3) ∧ (((13 : Nat) : Int) + (4) = ((17 : Nat) : Int)) := ⟨by decide +kernel, by decide⟩
theorem d_St_has_16 : decode m_St_has.2.1 16 = .ok (.iconst 0, 1) ∧ 16 + 1 = 17 := ⟨by decide +kernel, rfl⟩
theorem d_St_has_17 : decode m_St_has.2.1 17 = .ok (.ireturn, 1) := by decide +kernel
theorem d_St_hasCell_0 : decode m_St_hasCell.2.1 0 = .ok (.aload_n 0, 1) ∧ 0 + 1 = 1 := ⟨by decide +kernel, rfl⟩
theorem d_St_hasCell_1 : decode m_St_hasCell.2.1 1 = .ok (.iload_n 1, 1) ∧ 1 + 1 = 2 := ⟨by decide +kernel, rfl⟩
theorem d_St_hasCell_2 : decode m_St_hasCell.2.1 2 = .ok (.invokevirtual 149, 3) ∧ 2 + 3 = 5 := ⟨by decide +kernel, rfl⟩
theorem d_St_hasCell_5 : decode m_St_hasCell.2.1 5 = .ok (.ifCond .eq 21, 3) ∧ 5 + 3 = 8 ∧ (((5 : Nat) : Int) + (21) = ((26 : Nat) : Int)) := ⟨by decide +kernel, rfl, by decide⟩
theorem d_St_hasCell_8 : decode m_St_hasCell.2.1 8 = .ok (.iload_n 2, 1) ∧ 8 + 1 = 9 := ⟨by decide +kernel, rfl⟩
theorem d_St_hasCell_9 : decode m_St_hasCell.2.1 9 = .ok (.ifCond .lt 17, 3) ∧ 9 + 3 = 12 ∧ (((9 : Nat) : Int) + (17) = ((26 : Nat) : Int)) := ⟨by decide +kernel, rfl, by decide⟩
theorem d_St_hasCell_12 : decode m_St_hasCell.2.1 12 = .ok (.iload_n 2, 1) ∧ 12 + 1 = 13 := ⟨by decide +kernel, rfl⟩
theorem d_St_hasCell_13 : decode m_St_hasCell.2.1 13 = .ok (.aload_n 0, 1) ∧ 13 + 1 = 14 := ⟨by decide +kernel, rfl⟩
theorem d_St_hasCell_14 : decode m_St_hasCell.2.1 14 = .ok (.getfield 27, 3) ∧ 14 + 3 = 17 := ⟨by decide +kernel, rfl⟩
theorem d_St_hasCell_17 : decode m_St_hasCell.2.1 17 = .ok (.iload_n 1, 1) ∧ 17 + 1 = 18 := ⟨by decide +kernel, rfl⟩
theorem d_St_hasCell_18 : decode m_St_hasCell.2.1 18 = .ok (.iaload, 1) ∧ 18 + 1 = 19 := ⟨by decide +kernel, rfl⟩
theorem d_St_hasCell_19 : decode m_St_hasCell.2.1 19 = .ok (.if_icmp .gt 7, 3) ∧ 19 + 3 = 22 ∧ (((19 : Nat) : Int) + (7) = ((26 : Nat) : Int)) := ⟨by decide +kernel, rfl, by decide⟩
theorem d_St_hasCell_22 : decode m_St_hasCell.2.1 22 = .ok (.iconst 1, 1) ∧ 22 + 1 = 23 := ⟨by decide +kernel, rfl⟩
theorem d_St_hasCell_23 : decode m_St_hasCell.2.1 23 = .ok (.goto 4, 3) ∧ (((23 : Nat) : Int) + (4) = ((27 : Nat) : Int)) := ⟨by decide +kernel, by decide⟩
theorem d_St_hasCell_26 : decode m_St_hasCell.2.1 26 = .ok (.iconst 0, 1) ∧ 26 + 1 = 27 := ⟨by decide +kernel, rfl⟩
theorem d_St_hasCell_27 : decode m_St_hasCell.2.1 27 = .ok (.ireturn, 1) := by decide +kernel
theorem d_St_sections_0 : decode m_St_sections.2.1 0 = .ok (.iconst 0, 1) ∧ 0 + 1 = 1 := ⟨by decide +kernel, rfl⟩
theorem d_St_sections_1 : decode m_St_sections.2.1 1 = .ok (.istore_n 1, 1) ∧ 1 + 1 = 2 := ⟨by decide +kernel, rfl⟩
theorem d_St_sections_2 : decode m_St_sections.2.1 2 = .ok (.iconst 0, 1) ∧ 2 + 1 = 3 := ⟨by decide +kernel, rfl⟩
theorem d_St_sections_3 : decode m_St_sections.2.1 3 = .ok (.istore_n 2, 1) ∧ 3 + 1 = 4 := ⟨by decide +kernel, rfl⟩
theorem d_St_sections_4 : decode m_St_sections.2.1 4 = .ok (.iload_n 2, 1) ∧ 4 + 1 = 5 := ⟨by decide +kernel, rfl⟩
theorem d_St_sections_5 : decode m_St_sections.2.1 5 = .ok (.aload_n 0, 1) ∧ 5 + 1 = 6 := ⟨by decide +kernel, rfl⟩
theorem d_St_sections_6 : decode m_St_sections.2.1 6 = .ok (.getfield 21, 3) ∧ 6 + 3 = 9 := ⟨by decide +kernel, rfl⟩
theorem d_St_sections_9 : decode m_St_sections.2.1 9 = .ok (.if_icmp .ge 20, 3) ∧ 9 + 3 = 12 ∧ (((9 : Nat) : Int) + (20) = ((29 : Nat) : Int)) := ⟨by decide +kernel, rfl, by decide⟩
theorem d_St_sections_12 : decode m_St_sections.2.1 12 = .ok (.iload_n 1, 1) ∧ 12 + 1 = 13 := ⟨by decide +kernel, rfl⟩
theorem d_St_sections_13 : decode m_St_sections.2.1 13 = .ok (.aload_n 0, 1) ∧ 13 + 1 = 14 := ⟨by decide +kernel, rfl⟩
theorem d_St_sections_14 : decode m_St_sections.2.1 14 = .ok (.getfield 27, 3) ∧ 14 + 3 = 17 := ⟨by decide +kernel, rfl⟩
theorem d_St_sections_17 : decode m_St_sections.2.1 17 = .ok (.iload_n 2, 1) ∧ 17 + 1 = 18 := ⟨by decide +kernel, rfl⟩
theorem d_St_sections_18 : decode m_St_sections.2.1 18 = .ok (.iaload, 1) ∧ 18 + 1 = 19 := ⟨by decide +kernel, rfl⟩
theorem d_St_sections_19 : decode m_St_sections.2.1 19 = .ok (.iconst 2, 1) ∧ 19 + 1 = 20 := ⟨by decide +kernel, rfl⟩
theorem d_St_sections_20 : decode m_St_sections.2.1 20 = .ok (.idiv, 1) ∧ 20 + 1 = 21 := ⟨by decide +kernel, rfl⟩
theorem d_St_sections_21 : decode m_St_sections.2.1 21 = .ok (.iadd, 1) ∧ 21 + 1 = 22 := ⟨by decide +kernel, rfl⟩
theorem d_St_sections_22 : decode m_St_sections.2.1 22 = .ok (.istore_n 1, 1) ∧ 22 + 1 = 23 := ⟨by decide +kernel, rfl⟩
theorem d_St_sections_23 : decode m_St_sections.2.1 23 = .ok (.iinc 2 1, 3) ∧ 23 + 3 = 26 := ⟨by decide +kernel, rfl⟩
theorem d_St_sections_26 : decode m_St_sections.2.1 26 = .ok (.goto (-22), 3) ∧ (((26 : Nat) : Int) + (-22) = ((4 : Nat) : Int)) := ⟨by decide +kernel, by decide⟩
theorem d_St_sections_29 : decode m_St_sections.2.1 29 = .ok (.iload_n 1, 1) ∧ 29 + 1 = 30 := ⟨by decide +kernel, rfl⟩
theorem d_St_sections_30 : decode m_St_sections.2.1 30 = .ok (.ireturn, 1) := by decide +kernel
theorem d_St_cells_0 : decode m_St_cells.2.1 0 = .ok (.aload_n 0, 1) ∧ 0 + 1 = 1 := ⟨by decide +kernel, rfl⟩
theorem d_St_cells_1 : decode m_St_cells.2.1 1 = .ok (.getfield 21, 3) ∧ 1 + 3 = 4 := ⟨by decide +kernel, rfl⟩
theorem d_St_cells_4 : decode m_St_cells.2.1 4 = .ok (.iconst 2, 1) ∧ 4 + 1 = 5 := ⟨by decide +kernel, rfl⟩
theorem d_St_cells_5 : decode m_St_cells.2.1 5 = .ok (.aload_n 0, 1) ∧ 5 + 1 = 6 := ⟨by decide +kernel, rfl⟩
theorem d_St_cells_6 : decode m_St_cells.2.1 6 = .ok (.invokevirtual 152, 3) ∧ 6 + 3 = 9 := ⟨by decide +kernel, rfl⟩
theorem d_St_cells_9 : decode m_St_cells.2.1 9 = .ok (.imul, 1) ∧ 9 + 1 = 10 := ⟨by decide +kernel, rfl⟩
theorem d_St_cells_10 : decode m_St_cells.2.1 10 = .ok (.iadd, 1) ∧ 10 + 1 = 11 := ⟨by decide +kernel, rfl⟩
theorem d_St_cells_11 : decode m_St_cells.2.1 11 = .ok (.ireturn, 1) := by decide +kernel
theorem d_St_sideOf_0 : decode m_St_sideOf.2.1 0 = .ok (.aload_n 0, 1) ∧ 0 + 1 = 1 := ⟨by decide +kernel, rfl⟩
theorem d_St_sideOf_1 : decode m_St_sideOf.2.1 1 = .ok (.getfield 34, 3) ∧ 1 + 3 = 4 := ⟨by decide +kernel, rfl⟩
theorem d_St_sideOf_4 : decode m_St_sideOf.2.1 4 = .ok (.iload_n 3, 1) ∧ 4 + 1 = 5 := ⟨by decide +kernel, rfl⟩
theorem d_St_sideOf_5 : decode m_St_sideOf.2.1 5 = .ok (.baload, 1) ∧ 5 + 1 = 6 := ⟨by decide +kernel, rfl⟩
theorem d_St_sideOf_6 : decode m_St_sideOf.2.1 6 = .ok (.ifCond .eq 7, 3) ∧ 6 + 3 = 9 ∧ (((6 : Nat) : Int) + (7) = ((13 : Nat) : Int)) := ⟨by decide +kernel, rfl, by decide⟩
theorem d_St_sideOf_9 : decode m_St_sideOf.2.1 9 = .ok (.iload_n 1, 1) ∧ 9 + 1 = 10 := ⟨by decide +kernel, rfl⟩
theorem d_St_sideOf_10 : decode m_St_sideOf.2.1 10 = .ok (.goto 4, 3) ∧ (((10 : Nat) : Int) + (4) = ((14 : Nat) : Int)) := ⟨by decide +kernel, by decide⟩
theorem d_St_sideOf_13 : decode m_St_sideOf.2.1 13 = .ok (.iload_n 2, 1) ∧ 13 + 1 = 14 := ⟨by decide +kernel, rfl⟩
theorem d_St_sideOf_14 : decode m_St_sideOf.2.1 14 = .ok (.istore 4, 2) ∧ 14 + 2 = 16 := ⟨by decide +kernel, rfl⟩
theorem d_St_sideOf_16 : decode m_St_sideOf.2.1 16 = .ok (.aload_n 0, 1) ∧ 16 + 1 = 17 := ⟨by decide +kernel, rfl⟩
theorem d_St_sideOf_17 : decode m_St_sideOf.2.1 17 = .ok (.getfield 31, 3) ∧ 17 + 3 = 20 := ⟨by decide +kernel, rfl⟩
theorem d_St_sideOf_20 : decode m_St_sideOf.2.1 20 = .ok (.iconst 4, 1) ∧ 20 + 1 = 21 := ⟨by decide +kernel, rfl⟩
theorem d_St_sideOf_21 : decode m_St_sideOf.2.1 21 = .ok (.iload_n 1, 1) ∧ 21 + 1 = 22 := ⟨by decide +kernel, rfl⟩
theorem d_St_sideOf_22 : decode m_St_sideOf.2.1 22 = .ok (.imul, 1) ∧ 22 + 1 = 23 := ⟨by decide +kernel, rfl⟩
theorem d_St_sideOf_23 : decode m_St_sideOf.2.1 23 = .ok (.iload_n 3, 1) ∧ 23 + 1 = 24 := ⟨by decide +kernel, rfl⟩
theorem d_St_sideOf_24 : decode m_St_sideOf.2.1 24 = .ok (.iadd, 1) ∧ 24 + 1 = 25 := ⟨by decide +kernel, rfl⟩
theorem d_St_sideOf_25 : decode m_St_sideOf.2.1 25 = .ok (.iaload, 1) ∧ 25 + 1 = 26 := ⟨by decide +kernel, rfl⟩
theorem d_St_sideOf_26 : decode m_St_sideOf.2.1 26 = .ok (.iload 4, 2) ∧ 26 + 2 = 28 := ⟨by decide +kernel, rfl⟩
theorem d_St_sideOf_28 : decode m_St_sideOf.2.1 28 = .ok (.invokestatic 125, 3) ∧ 28 + 3 = 31 := ⟨by decide +kernel, rfl⟩
theorem d_St_sideOf_31 : decode m_St_sideOf.2.1 31 = .ok (.iconst 1, 1) ∧ 31 + 1 = 32 := ⟨by decide +kernel, rfl⟩
theorem d_St_sideOf_32 : decode m_St_sideOf.2.1 32 = .ok (.iadd, 1) ∧ 32 + 1 = 33 := ⟨by decide +kernel, rfl⟩
theorem d_St_sideOf_33 : decode m_St_sideOf.2.1 33 = .ok (.ireturn, 1) := by decide +kernel
theorem d_St_uprightsAt_0 : decode m_St_uprightsAt.2.1 0 = .ok (.iconst 0, 1) ∧ 0 + 1 = 1 := ⟨by decide +kernel, rfl⟩
theorem d_St_uprightsAt_1 : decode m_St_uprightsAt.2.1 1 = .ok (.istore_n 2, 1) ∧ 1 + 1 = 2 := ⟨by decide +kernel, rfl⟩
theorem d_St_uprightsAt_2 : decode m_St_uprightsAt.2.1 2 = .ok (.iconst 0, 1) ∧ 2 + 1 = 3 := ⟨by decide +kernel, rfl⟩
theorem d_St_uprightsAt_3 : decode m_St_uprightsAt.2.1 3 = .ok (.istore_n 3, 1) ∧ 3 + 1 = 4 := ⟨by decide +kernel, rfl⟩
theorem d_St_uprightsAt_4 : decode m_St_uprightsAt.2.1 4 = .ok (.iload_n 3, 1) ∧ 4 + 1 = 5 := ⟨by decide +kernel, rfl⟩
theorem d_St_uprightsAt_5 : decode m_St_uprightsAt.2.1 5 = .ok (.aload_n 0, 1) ∧ 5 + 1 = 6 := ⟨by decide +kernel, rfl⟩
theorem d_St_uprightsAt_6 : decode m_St_uprightsAt.2.1 6 = .ok (.getfield 24, 3) ∧ 6 + 3 = 9 := ⟨by decide +kernel, rfl⟩
theorem d_St_uprightsAt_9 : decode m_St_uprightsAt.2.1 9 = .ok (.if_icmp .ge 35, 3) ∧ 9 + 3 = 12 ∧ (((9 : Nat) : Int) + (35) = ((44 : Nat) : Int)) := ⟨by decide +kernel, rfl, by decide⟩
theorem d_St_uprightsAt_12 : decode m_St_uprightsAt.2.1 12 = .ok (.aload_n 0, 1) ∧ 12 + 1 = 13 := ⟨by decide +kernel, rfl⟩
theorem d_St_uprightsAt_13 : decode m_St_uprightsAt.2.1 13 = .ok (.getfield 34, 3) ∧ 13 + 3 = 16 := ⟨by decide +kernel, rfl⟩
theorem d_St_uprightsAt_16 : decode m_St_uprightsAt.2.1 16 = .ok (.iload_n 3, 1) ∧ 16 + 1 = 17 := ⟨by decide +kernel, rfl⟩
theorem d_St_uprightsAt_17 : decode m_St_uprightsAt.2.1 17 = .ok (.baload, 1) ∧ 17 + 1 = 18 := ⟨by decide +kernel, rfl⟩
theorem d_St_uprightsAt_18 : decode m_St_uprightsAt.2.1 18 = .ok (.ifCond .eq 20, 3) ∧ 18 + 3 = 21 ∧ (((18 : Nat) : Int) + (20) = ((38 : Nat) : Int)) := ⟨by decide +kernel, rfl, by decide⟩
theorem d_St_uprightsAt_21 : decode m_St_uprightsAt.2.1 21 = .ok (.aload_n 0, 1) ∧ 21 + 1 = 22 := ⟨by decide +kernel, rfl⟩
theorem d_St_uprightsAt_22 : decode m_St_uprightsAt.2.1 22 = .ok (.getfield 31, 3) ∧ 22 + 3 = 25 := ⟨by decide +kernel, rfl⟩
theorem d_St_uprightsAt_25 : decode m_St_uprightsAt.2.1 25 = .ok (.iload_n 3, 1) ∧ 25 + 1 = 26 := ⟨by decide +kernel, rfl⟩
theorem d_St_uprightsAt_26 : decode m_St_uprightsAt.2.1 26 = .ok (.iaload, 1) ∧ 26 + 1 = 27 := ⟨by decide +kernel, rfl⟩
theorem d_St_uprightsAt_27 : decode m_St_uprightsAt.2.1 27 = .ok (.iconst 2, 1) ∧ 27 + 1 = 28 := ⟨by decide +kernel, rfl⟩
theorem d_St_uprightsAt_28 : decode m_St_uprightsAt.2.1 28 = .ok (.iload_n 1, 1) ∧ 28 + 1 = 29 := ⟨by decide +kernel, rfl⟩
theorem d_St_uprightsAt_29 : decode m_St_uprightsAt.2.1 29 = .ok (.imul, 1) ∧ 29 + 1 = 30 := ⟨by decide +kernel, rfl⟩
theorem d_St_uprightsAt_30 : decode m_St_uprightsAt.2.1 30 = .ok (.iconst 1, 1) ∧ 30 + 1 = 31 := ⟨by decide +kernel, rfl⟩
theorem d_St_uprightsAt_31 : decode m_St_uprightsAt.2.1 31 = .ok (.iadd, 1) ∧ 31 + 1 = 32 := ⟨by decide +kernel, rfl⟩
theorem d_St_uprightsAt_32 : decode m_St_uprightsAt.2.1 32 = .ok (.if_icmp .ne 6, 3) ∧ 32 + 3 = 35 ∧ (((32 : Nat) : Int) + (6) = ((38 : Nat) : Int)) := ⟨by decide +kernel, rfl, by decide⟩
theorem d_St_uprightsAt_35 : decode m_St_uprightsAt.2.1 35 = .ok (.iinc 2 1, 3) ∧ 35 + 3 = 38 := ⟨by decide +kernel, rfl⟩
theorem d_St_uprightsAt_38 : decode m_St_uprightsAt.2.1 38 = .ok (.iinc 3 1, 3) ∧ 38 + 3 = 41 := ⟨by decide +kernel, rfl⟩
theorem d_St_uprightsAt_41 : decode m_St_uprightsAt.2.1 41 = .ok (.goto (-37), 3) ∧ (((41 : Nat) : Int) + (-37) = ((4 : Nat) : Int)) := ⟨by decide +kernel, by decide⟩
theorem d_St_uprightsAt_44 : decode m_St_uprightsAt.2.1 44 = .ok (.iload_n 2, 1) ∧ 44 + 1 = 45 := ⟨by decide +kernel, rfl⟩
theorem d_St_uprightsAt_45 : decode m_St_uprightsAt.2.1 45 = .ok (.ireturn, 1) := by decide +kernel
theorem d_St_pairsMeetingAt_0 : decode m_St_pairsMeetingAt.2.1 0 = .ok (.iconst 0, 1) ∧ 0 + 1 = 1 := ⟨by decide +kernel, rfl⟩
theorem d_St_pairsMeetingAt_1 : decode m_St_pairsMeetingAt.2.1 1 = .ok (.istore_n 2, 1) ∧ 1 + 1 = 2 := ⟨by decide +kernel, rfl⟩
theorem d_St_pairsMeetingAt_2 : decode m_St_pairsMeetingAt.2.1 2 = .ok (.iconst 0, 1) ∧ 2 + 1 = 3 := ⟨by decide +kernel, rfl⟩
theorem d_St_pairsMeetingAt_3 : decode m_St_pairsMeetingAt.2.1 3 = .ok (.istore_n 3, 1) ∧ 3 + 1 = 4 := ⟨by decide +kernel, rfl⟩
theorem d_St_pairsMeetingAt_4 : decode m_St_pairsMeetingAt.2.1 4 = .ok (.iload_n 3, 1) ∧ 4 + 1 = 5 := ⟨by decide +kernel, rfl⟩
theorem d_St_pairsMeetingAt_5 : decode m_St_pairsMeetingAt.2.1 5 = .ok (.aload_n 0, 1) ∧ 5 + 1 = 6 := ⟨by decide +kernel, rfl⟩
theorem d_St_pairsMeetingAt_6 : decode m_St_pairsMeetingAt.2.1 6 = .ok (.getfield 24, 3) ∧ 6 + 3 = 9 := ⟨by decide +kernel, rfl⟩
theorem d_St_pairsMeetingAt_9 : decode m_St_pairsMeetingAt.2.1 9 = .ok (.if_icmp .ge 57, 3) ∧ 9 + 3 = 12 ∧ (((9 : Nat) : Int) + (57) = ((66 : Nat) : Int)) := ⟨by decide +kernel, rfl, by decide⟩
theorem d_St_pairsMeetingAt_12 : decode m_St_pairsMeetingAt.2.1 12 = .ok (.iconst 0, 1) ∧ 12 + 1 = 13 := ⟨by decide +kernel, rfl⟩
theorem d_St_pairsMeetingAt_13 : decode m_St_pairsMeetingAt.2.1 13 = .ok (.istore 4, 2) ∧ 13 + 2 = 15 := ⟨by decide +kernel, rfl⟩
theorem d_St_pairsMeetingAt_15 : decode m_St_pairsMeetingAt.2.1 15 = .ok (.iload 4, 2) ∧ 15 + 2 = 17 := ⟨by decide +kernel, rfl⟩
theorem d_St_pairsMeetingAt_17 : decode m_St_pairsMeetingAt.2.1 17 = .ok (.iload_n 3, 1) ∧ 17 + 1 = 18 := ⟨by decide +kernel, rfl⟩
theorem d_St_pairsMeetingAt_18 : decode m_St_pairsMeetingAt.2.1 18 = .ok (.if_icmp .ge 42, 3) ∧ 18 + 3 = 21 ∧ (((18 : Nat) : Int) + (42) = ((60 : Nat) : Int)) := ⟨by decide +kernel, rfl, by decide⟩
theorem d_St_pairsMeetingAt_21 : decode m_St_pairsMeetingAt.2.1 21 = .ok (.aload_n 0, 1) ∧ 21 + 1 = 22 := ⟨by decide +kernel, rfl⟩
theorem d_St_pairsMeetingAt_22 : decode m_St_pairsMeetingAt.2.1 22 = .ok (.getfield 34, 3) ∧ 22 + 3 = 25 := ⟨by decide +kernel, rfl⟩
theorem d_St_pairsMeetingAt_25 : decode m_St_pairsMeetingAt.2.1 25 = .ok (.iload_n 3, 1) ∧ 25 + 1 = 26 := ⟨by decide +kernel, rfl⟩
theorem d_St_pairsMeetingAt_26 : decode m_St_pairsMeetingAt.2.1 26 = .ok (.baload, 1) ∧ 26 + 1 = 27 := ⟨by decide +kernel, rfl⟩
theorem d_St_pairsMeetingAt_27 : decode m_St_pairsMeetingAt.2.1 27 = .ok (.ifCond .ne 27, 3) ∧ 27 + 3 = 30 ∧ (((27 : Nat) : Int) + (27) = ((54 : Nat) : Int)) := ⟨by decide +kernel, rfl, by decide⟩
theorem d_St_pairsMeetingAt_30 : decode m_St_pairsMeetingAt.2.1 30 = .ok (.aload_n 0, 1) ∧ 30 + 1 = 31 := ⟨by decide +kernel, rfl⟩
theorem d_St_pairsMeetingAt_31 : decode m_St_pairsMeetingAt.2.1 31 = .ok (.getfield 34, 3) ∧ 31 + 3 = 34 := ⟨by decide +kernel, rfl⟩
theorem d_St_pairsMeetingAt_34 : decode m_St_pairsMeetingAt.2.1 34 = .ok (.iload 4, 2) ∧ 34 + 2 = 36 := ⟨by decide +kernel, rfl⟩
theorem d_St_pairsMeetingAt_36 : decode m_St_pairsMeetingAt.2.1 36 = .ok (.baload, 1) ∧ 36 + 1 = 37 := ⟨by decide +kernel, rfl⟩
theorem d_St_pairsMeetingAt_37 : decode m_St_pairsMeetingAt.2.1 37 = .ok (.ifCond .ne 17, 3) ∧ 37 + 3 = 40 ∧ (((37 : Nat) : Int) + (17) = ((54 : Nat) : Int)) := ⟨by decide +kernel, rfl, by decide⟩
theorem d_St_pairsMeetingAt_40 : decode m_St_pairsMeetingAt.2.1 40 = .ok (.aload_n 0, 1) ∧ 40 + 1 = 41 := ⟨by decide +kernel, rfl⟩
theorem d_St_pairsMeetingAt_41 : decode m_St_pairsMeetingAt.2.1 41 = .ok (.iload_n 1, 1) ∧ 41 + 1 = 42 := ⟨by decide +kernel, rfl⟩
theorem d_St_pairsMeetingAt_42 : decode m_St_pairsMeetingAt.2.1 42 = .ok (.iload_n 3, 1) ∧ 42 + 1 = 43 := ⟨by decide +kernel, rfl⟩
theorem d_St_pairsMeetingAt_43 : decode m_St_pairsMeetingAt.2.1 43 = .ok (.iload 4, 2) ∧ 43 + 2 = 45 := ⟨by decide +kernel, rfl⟩
theorem d_St_pairsMeetingAt_45 : decode m_St_pairsMeetingAt.2.1 45 = .ok (.invokevirtual 156, 3) ∧ 45 + 3 = 48 := ⟨by decide +kernel, rfl⟩
theorem d_St_pairsMeetingAt_48 : decode m_St_pairsMeetingAt.2.1 48 = .ok (.ifCond .eq 6, 3) ∧ 48 + 3 = 51 ∧ (((48 : Nat) : Int) + (6) = ((54 : Nat) : Int)) := ⟨by decide +kernel, rfl, by decide⟩
theorem d_St_pairsMeetingAt_51 : decode m_St_pairsMeetingAt.2.1 51 = .ok (.iinc 2 1, 3) ∧ 51 + 3 = 54 := ⟨by decide +kernel, rfl⟩
theorem d_St_pairsMeetingAt_54 : decode m_St_pairsMeetingAt.2.1 54 = .ok (.iinc 4 1, 3) ∧ 54 + 3 = 57 := ⟨by decide +kernel, rfl⟩
theorem d_St_pairsMeetingAt_57 : decode m_St_pairsMeetingAt.2.1 57 = .ok (.goto (-42), 3) ∧ (((57 : Nat) : Int) + (-42) = ((15 : Nat) : Int)) := ⟨by decide +kernel, by decide⟩
theorem d_St_pairsMeetingAt_60 : decode m_St_pairsMeetingAt.2.1 60 = .ok (.iinc 3 1, 3) ∧ 60 + 3 = 63 := ⟨by decide +kernel, rfl⟩
theorem d_St_pairsMeetingAt_63 : decode m_St_pairsMeetingAt.2.1 63 = .ok (.goto (-59), 3) ∧ (((63 : Nat) : Int) + (-59) = ((4 : Nat) : Int)) := ⟨by decide +kernel, by decide⟩
theorem d_St_pairsMeetingAt_66 : decode m_St_pairsMeetingAt.2.1 66 = .ok (.iload_n 2, 1) ∧ 66 + 1 = 67 := ⟨by decide +kernel, rfl⟩
theorem d_St_pairsMeetingAt_67 : decode m_St_pairsMeetingAt.2.1 67 = .ok (.ireturn, 1) := by decide +kernel
theorem d_St_meetAt_0 : decode m_St_meetAt.2.1 0 = .ok (.bipush 8, 2) ∧ 0 + 2 = 2 ∧ (Int8.ofInt 8).toInt32 = Int32.ofInt 8 := ⟨by decide +kernel, rfl, by decide +kernel⟩
theorem d_St_meetAt_2 : decode m_St_meetAt.2.1 2 = .ok (.iload_n 1, 1) ∧ 2 + 1 = 3 := ⟨by decide +kernel, rfl⟩
theorem d_St_meetAt_3 : decode m_St_meetAt.2.1 3 = .ok (.imul, 1) ∧ 3 + 1 = 4 := ⟨by decide +kernel, rfl⟩
theorem d_St_meetAt_4 : decode m_St_meetAt.2.1 4 = .ok (.istore 4, 2) ∧ 4 + 2 = 6 := ⟨by decide +kernel, rfl⟩
theorem d_St_meetAt_6 : decode m_St_meetAt.2.1 6 = .ok (.iload 4, 2) ∧ 6 + 2 = 8 := ⟨by decide +kernel, rfl⟩
theorem d_St_meetAt_8 : decode m_St_meetAt.2.1 8 = .ok (.iconst 4, 1) ∧ 8 + 1 = 9 := ⟨by decide +kernel, rfl⟩
theorem d_St_meetAt_9 : decode m_St_meetAt.2.1 9 = .ok (.iadd, 1) ∧ 9 + 1 = 10 := ⟨by decide +kernel, rfl⟩
theorem d_St_meetAt_10 : decode m_St_meetAt.2.1 10 = .ok (.istore 5, 2) ∧ 10 + 2 = 12 := ⟨by decide +kernel, rfl⟩
theorem d_St_meetAt_12 : decode m_St_meetAt.2.1 12 = .ok (.aload_n 0, 1) ∧ 12 + 1 = 13 := ⟨by decide +kernel, rfl⟩
theorem d_St_meetAt_13 : decode m_St_meetAt.2.1 13 = .ok (.getfield 31, 3) ∧ 13 + 3 = 16 := ⟨by decide +kernel, rfl⟩
theorem d_St_meetAt_16 : decode m_St_meetAt.2.1 16 = .ok (.iload 5, 2) ∧ 16 + 2 = 18 := ⟨by decide +kernel, rfl⟩
theorem d_St_meetAt_18 : decode m_St_meetAt.2.1 18 = .ok (.iload_n 2, 1) ∧ 18 + 1 = 19 := ⟨by decide +kernel, rfl⟩
theorem d_St_meetAt_19 : decode m_St_meetAt.2.1 19 = .ok (.iadd, 1) ∧ 19 + 1 = 20 := ⟨by decide +kernel, rfl⟩
theorem d_St_meetAt_20 : decode m_St_meetAt.2.1 20 = .ok (.iaload, 1) ∧ 20 + 1 = 21 := ⟨by decide +kernel, rfl⟩
theorem d_St_meetAt_21 : decode m_St_meetAt.2.1 21 = .ok (.aload_n 0, 1) ∧ 21 + 1 = 22 := ⟨by decide +kernel, rfl⟩
theorem d_St_meetAt_22 : decode m_St_meetAt.2.1 22 = .ok (.getfield 31, 3) ∧ 22 + 3 = 25 := ⟨by decide +kernel, rfl⟩
theorem d_St_meetAt_25 : decode m_St_meetAt.2.1 25 = .ok (.iload 5, 2) ∧ 25 + 2 = 27 := ⟨by decide +kernel, rfl⟩
theorem d_St_meetAt_27 : decode m_St_meetAt.2.1 27 = .ok (.iload_n 3, 1) ∧ 27 + 1 = 28 := ⟨by decide +kernel, rfl⟩
theorem d_St_meetAt_28 : decode m_St_meetAt.2.1 28 = .ok (.iadd, 1) ∧ 28 + 1 = 29 := ⟨by decide +kernel, rfl⟩
theorem d_St_meetAt_29 : decode m_St_meetAt.2.1 29 = .ok (.iaload, 1) ∧ 29 + 1 = 30 := ⟨by decide +kernel, rfl⟩
theorem d_St_meetAt_30 : decode m_St_meetAt.2.1 30 = .ok (.if_icmp .ne 28, 3) ∧ 30 + 3 = 33 ∧ (((30 : Nat) : Int) + (28) = ((58 : Nat) : Int)) := ⟨by decide +kernel, rfl, by decide⟩
theorem d_St_meetAt_33 : decode m_St_meetAt.2.1 33 = .ok (.aload_n 0, 1) ∧ 33 + 1 = 34 := ⟨by decide +kernel, rfl⟩
theorem d_St_meetAt_34 : decode m_St_meetAt.2.1 34 = .ok (.getfield 31, 3) ∧ 34 + 3 = 37 := ⟨by decide +kernel, rfl⟩
theorem d_St_meetAt_37 : decode m_St_meetAt.2.1 37 = .ok (.iload 4, 2) ∧ 37 + 2 = 39 := ⟨by decide +kernel, rfl⟩
theorem d_St_meetAt_39 : decode m_St_meetAt.2.1 39 = .ok (.iload_n 2, 1) ∧ 39 + 1 = 40 := ⟨by decide +kernel, rfl⟩
theorem d_St_meetAt_40 : decode m_St_meetAt.2.1 40 = .ok (.iadd, 1) ∧ 40 + 1 = 41 := ⟨by decide +kernel, rfl⟩
theorem d_St_meetAt_41 : decode m_St_meetAt.2.1 41 = .ok (.iaload, 1) ∧ 41 + 1 = 42 := ⟨by decide +kernel, rfl⟩
theorem d_St_meetAt_42 : decode m_St_meetAt.2.1 42 = .ok (.aload_n 0, 1) ∧ 42 + 1 = 43 := ⟨by decide +kernel, rfl⟩
theorem d_St_meetAt_43 : decode m_St_meetAt.2.1 43 = .ok (.getfield 31, 3) ∧ 43 + 3 = 46 := ⟨by decide +kernel, rfl⟩
theorem d_St_meetAt_46 : decode m_St_meetAt.2.1 46 = .ok (.iload 4, 2) ∧ 46 + 2 = 48 := ⟨by decide +kernel, rfl⟩
theorem d_St_meetAt_48 : decode m_St_meetAt.2.1 48 = .ok (.iload_n 3, 1) ∧ 48 + 1 = 49 := ⟨by decide +kernel, rfl⟩
theorem d_St_meetAt_49 : decode m_St_meetAt.2.1 49 = .ok (.iadd, 1) ∧ 49 + 1 = 50 := ⟨by decide +kernel, rfl⟩
theorem d_St_meetAt_50 : decode m_St_meetAt.2.1 50 = .ok (.iaload, 1) ∧ 50 + 1 = 51 := ⟨by decide +kernel, rfl⟩
theorem d_St_meetAt_51 : decode m_St_meetAt.2.1 51 = .ok (.if_icmp .eq 7, 3) ∧ 51 + 3 = 54 ∧ (((51 : Nat) : Int) + (7) = ((58 : Nat) : Int)) := ⟨by decide +kernel, rfl, by decide⟩
theorem d_St_meetAt_54 : decode m_St_meetAt.2.1 54 = .ok (.iconst 1, 1) ∧ 54 + 1 = 55 := ⟨by decide +kernel, rfl⟩
theorem d_St_meetAt_55 : decode m_St_meetAt.2.1 55 = .ok (.goto 4, 3) ∧ (((55 : Nat) : Int) + (4) = ((59 : Nat) : Int)) := ⟨by decide +kernel, by decide⟩
theorem d_St_meetAt_58 : decode m_St_meetAt.2.1 58 = .ok (.iconst 0, 1) ∧ 58 + 1 = 59 := ⟨by decide +kernel, rfl⟩
theorem d_St_meetAt_59 : decode m_St_meetAt.2.1 59 = .ok (.ireturn, 1) := by decide +kernel
theorem d_St_neighboursOf_0 : decode m_St_neighboursOf.2.1 0 = .ok (.iload_n 2, 1) ∧ 0 + 1 = 1 := ⟨by decide +kernel, rfl⟩
theorem d_St_neighboursOf_1 : decode m_St_neighboursOf.2.1 1 = .ok (.ifCond .le 7, 3) ∧ 1 + 3 = 4 ∧ (((1 : Nat) : Int) + (7) = ((8 : Nat) : Int)) := ⟨by decide +kernel, rfl, by decide⟩
theorem d_St_neighboursOf_4 : decode m_St_neighboursOf.2.1 4 = .ok (.iconst 1, 1) ∧ 4 + 1 = 5 := ⟨by decide +kernel, rfl⟩
theorem d_St_neighboursOf_5 : decode m_St_neighboursOf.2.1 5 = .ok (.goto 4, 3) ∧ (((5 : Nat) : Int) + (4) = ((9 : Nat) : Int)) := ⟨by decide +kernel, by decide⟩
theorem d_St_neighboursOf_8 : decode m_St_neighboursOf.2.1 8 = .ok (.iconst 0, 1) ∧ 8 + 1 = 9 := ⟨by decide +kernel, rfl⟩
theorem d_St_neighboursOf_9 : decode m_St_neighboursOf.2.1 9 = .ok (.iload_n 2, 1) ∧ 9 + 1 = 10 := ⟨by decide +kernel, rfl⟩
theorem d_St_neighboursOf_10 : decode m_St_neighboursOf.2.1 10 = .ok (.aload_n 0, 1) ∧ 10 + 1 = 11 := ⟨by decide +kernel, rfl⟩
theorem d_St_neighboursOf_11 : decode m_St_neighboursOf.2.1 11 = .ok (.getfield 27, 3) ∧ 11 + 3 = 14 := ⟨by decide +kernel, rfl⟩
theorem d_St_neighboursOf_14 : decode m_St_neighboursOf.2.1 14 = .ok (.iload_n 1, 1) ∧ 14 + 1 = 15 := ⟨by decide +kernel, rfl⟩
theorem d_St_neighboursOf_15 : decode m_St_neighboursOf.2.1 15 = .ok (.iaload, 1) ∧ 15 + 1 = 16 := ⟨by decide +kernel, rfl⟩
theorem d_St_neighboursOf_16 : decode m_St_neighboursOf.2.1 16 = .ok (.if_icmp .ge 7, 3) ∧ 16 + 3 = 19 ∧ (((16 : Nat) : Int) + (7) = ((23 : Nat) : Int)) := ⟨by decide +kernel, rfl, by decide⟩
theorem d_St_neighboursOf_19 : decode m_St_neighboursOf.2.1 19 = .ok (.iconst 1, 1) ∧ 19 + 1 = 20 := ⟨by decide +kernel, rfl⟩
theorem d_St_neighboursOf_20 : decode m_St_neighboursOf.2.1 20 = .ok (.goto 4, 3) ∧ (((20 : Nat) : Int) + (4) = ((24 : Nat) : Int)) := ⟨by decide +kernel, by decide⟩
theorem d_St_neighboursOf_23 : decode m_St_neighboursOf.2.1 23 = .ok (.iconst 0, 1) ∧ 23 + 1 = 24 := ⟨by decide +kernel, rfl⟩
theorem d_St_neighboursOf_24 : decode m_St_neighboursOf.2.1 24 = .ok (.iadd, 1) ∧ 24 + 1 = 25 := ⟨by decide +kernel, rfl⟩
theorem d_St_neighboursOf_25 : decode m_St_neighboursOf.2.1 25 = .ok (.istore_n 3, 1) ∧ 25 + 1 = 26 := ⟨by decide +kernel, rfl⟩
theorem d_St_neighboursOf_26 : decode m_St_neighboursOf.2.1 26 = .ok (.iload_n 1, 1) ∧ 26 + 1 = 27 := ⟨by decide +kernel, rfl⟩
theorem d_St_neighboursOf_27 : decode m_St_neighboursOf.2.1 27 = .ok (.iconst 1, 1) ∧ 27 + 1 = 28 := ⟨by decide +kernel, rfl⟩
theorem d_St_neighboursOf_28 : decode m_St_neighboursOf.2.1 28 = .ok (.isub, 1) ∧ 28 + 1 = 29 := ⟨by decide +kernel, rfl⟩
theorem d_St_neighboursOf_29 : decode m_St_neighboursOf.2.1 29 = .ok (.istore 4, 2) ∧ 29 + 2 = 31 := ⟨by decide +kernel, rfl⟩
theorem d_St_neighboursOf_31 : decode m_St_neighboursOf.2.1 31 = .ok (.iload 4, 2) ∧ 31 + 2 = 33 := ⟨by decide +kernel, rfl⟩
theorem d_St_neighboursOf_33 : decode m_St_neighboursOf.2.1 33 = .ok (.iload_n 1, 1) ∧ 33 + 1 = 34 := ⟨by decide +kernel, rfl⟩
theorem d_St_neighboursOf_34 : decode m_St_neighboursOf.2.1 34 = .ok (.iconst 1, 1) ∧ 34 + 1 = 35 := ⟨by decide +kernel, rfl⟩
theorem d_St_neighboursOf_35 : decode m_St_neighboursOf.2.1 35 = .ok (.iadd, 1) ∧ 35 + 1 = 36 := ⟨by decide +kernel, rfl⟩
theorem d_St_neighboursOf_36 : decode m_St_neighboursOf.2.1 36 = .ok (.if_icmp .gt 57, 3) ∧ 36 + 3 = 39 ∧ (((36 : Nat) : Int) + (57) = ((93 : Nat) : Int)) := ⟨by decide +kernel, rfl, by decide⟩
theorem d_St_neighboursOf_39 : decode m_St_neighboursOf.2.1 39 = .ok (.aload_n 0, 1) ∧ 39 + 1 = 40 := ⟨by decide +kernel, rfl⟩
theorem d_St_neighboursOf_40 : decode m_St_neighboursOf.2.1 40 = .ok (.iload 4, 2) ∧ 40 + 2 = 42 := ⟨by decide +kernel, rfl⟩
theorem d_St_neighboursOf_42 : decode m_St_neighboursOf.2.1 42 = .ok (.invokevirtual 149, 3) ∧ 42 + 3 = 45 := ⟨by decide +kernel, rfl⟩
theorem d_St_neighboursOf_45 : decode m_St_neighboursOf.2.1 45 = .ok (.ifCond .eq 42, 3) ∧ 45 + 3 = 48 ∧ (((45 : Nat) : Int) + (42) = ((87 : Nat) : Int)) := ⟨by decide +kernel, rfl, by decide⟩
theorem d_St_neighboursOf_48 : decode m_St_neighboursOf.2.1 48 = .ok (.iload_n 3, 1) ∧ 48 + 1 = 49 := ⟨by decide +kernel, rfl⟩
theorem d_St_neighboursOf_49 : decode m_St_neighboursOf.2.1 49 = .ok (.iload_n 1, 1) ∧ 49 + 1 = 50 := ⟨by decide +kernel, rfl⟩
theorem d_St_neighboursOf_50 : decode m_St_neighboursOf.2.1 50 = .ok (.iconst 2, 1) ∧ 50 + 1 = 51 := ⟨by decide +kernel, rfl⟩
theorem d_St_neighboursOf_51 : decode m_St_neighboursOf.2.1 51 = .ok (.irem, 1) ∧ 51 + 1 = 52 := ⟨by decide +kernel, rfl⟩
theorem d_St_neighboursOf_52 : decode m_St_neighboursOf.2.1 52 = .ok (.ifCond .ne 25, 3) ∧ 52 + 3 = 55 ∧ (((52 : Nat) : Int) + (25) = ((77 : Nat) : Int)) := ⟨by decide +kernel, rfl, by decide⟩
theorem d_St_neighboursOf_55 : decode m_St_neighboursOf.2.1 55 = .ok (.aload_n 0, 1) ∧ 55 + 1 = 56 := ⟨by decide +kernel, rfl⟩
theorem d_St_neighboursOf_56 : decode m_St_neighboursOf.2.1 56 = .ok (.iload_n 1, 1) ∧ 56 + 1 = 57 := ⟨by decide +kernel, rfl⟩
theorem d_St_neighboursOf_57 : decode m_St_neighboursOf.2.1 57 = .ok (.iload_n 2, 1) ∧ 57 + 1 = 58 := ⟨by decide +kernel, rfl⟩
theorem d_St_neighboursOf_58 : decode m_St_neighboursOf.2.1 58 = .ok (.iload 4, 2) ∧ 58 + 2 = 60 := ⟨by decide +kernel, rfl⟩
theorem d_St_neighboursOf_60 : decode m_St_neighboursOf.2.1 60 = .ok (.invokevirtual 160, 3) ∧ 60 + 3 = 63 := ⟨by decide +kernel, rfl⟩
theorem d_St_neighboursOf_63 : decode m_St_neighboursOf.2.1 63 = .ok (.aload_n 0, 1) ∧ 63 + 1 = 64 := ⟨by decide +kernel, rfl⟩
theorem d_St_neighboursOf_64 : decode m_St_neighboursOf.2.1 64 = .ok (.iload_n 1, 1) ∧ 64 + 1 = 65 := ⟨by decide +kernel, rfl⟩
theorem d_St_neighboursOf_65 : decode m_St_neighboursOf.2.1 65 = .ok (.iload_n 2, 1) ∧ 65 + 1 = 66 := ⟨by decide +kernel, rfl⟩
theorem d_St_neighboursOf_66 : decode m_St_neighboursOf.2.1 66 = .ok (.iload 4, 2) ∧ 66 + 2 = 68 := ⟨by decide +kernel, rfl⟩
theorem d_St_neighboursOf_68 : decode m_St_neighboursOf.2.1 68 = .ok (.invokevirtual 164, 3) ∧ 68 + 3 = 71 := ⟨by decide +kernel, rfl⟩
theorem d_St_neighboursOf_71 : decode m_St_neighboursOf.2.1 71 = .ok (.isub, 1) ∧ 71 + 1 = 72 := ⟨by decide +kernel, rfl⟩
theorem d_St_neighboursOf_72 : decode m_St_neighboursOf.2.1 72 = .ok (.iconst 1, 1) ∧ 72 + 1 = 73 := ⟨by decide +kernel, rfl⟩
theorem d_St_neighboursOf_73 : decode m_St_neighboursOf.2.1 73 = .ok (.iadd, 1) ∧ 73 + 1 = 74 := ⟨by decide +kernel, rfl⟩
theorem d_St_neighboursOf_74 : decode m_St_neighboursOf.2.1 74 = .ok (.goto 11, 3) ∧ (((74 : Nat) : Int) + (11) = ((85 : Nat) : Int)) := ⟨by decide +kernel, by decide⟩
theorem d_St_neighboursOf_77 : decode m_St_neighboursOf.2.1 77 = .ok (.aload_n 0, 1) ∧ 77 + 1 = 78 := ⟨by decide +kernel, rfl⟩
theorem d_St_neighboursOf_78 : decode m_St_neighboursOf.2.1 78 = .ok (.iload_n 1, 1) ∧ 78 + 1 = 79 := ⟨by decide +kernel, rfl⟩
theorem d_St_neighboursOf_79 : decode m_St_neighboursOf.2.1 79 = .ok (.iload_n 2, 1) ∧ 79 + 1 = 80 := ⟨by decide +kernel, rfl⟩
theorem d_St_neighboursOf_80 : decode m_St_neighboursOf.2.1 80 = .ok (.iload 4, 2) ∧ 80 + 2 = 82 := ⟨by decide +kernel, rfl⟩
theorem d_St_neighboursOf_82 : decode m_St_neighboursOf.2.1 82 = .ok (.invokevirtual 167, 3) ∧ 82 + 3 = 85 := ⟨by decide +kernel, rfl⟩
theorem d_St_neighboursOf_85 : decode m_St_neighboursOf.2.1 85 = .ok (.iadd, 1) ∧ 85 + 1 = 86 := ⟨by decide +kernel, rfl⟩
theorem d_St_neighboursOf_86 : decode m_St_neighboursOf.2.1 86 = .ok (.istore_n 3, 1) ∧ 86 + 1 = 87 := ⟨by decide +kernel, rfl⟩
theorem d_St_neighboursOf_87 : decode m_St_neighboursOf.2.1 87 = .ok (.iinc 4 2, 3) ∧ 87 + 3 = 90 := ⟨by decide +kernel, rfl⟩
theorem d_St_neighboursOf_90 : decode m_St_neighboursOf.2.1 90 = .ok (.goto (-59), 3) ∧ (((90 : Nat) : Int) + (-59) = ((31 : Nat) : Int)) := ⟨by decide +kernel, by decide⟩
theorem d_St_neighboursOf_93 : decode m_St_neighboursOf.2.1 93 = .ok (.iload_n 3, 1) ∧ 93 + 1 = 94 := ⟨by decide +kernel, rfl⟩
theorem d_St_neighboursOf_94 : decode m_St_neighboursOf.2.1 94 = .ok (.ireturn, 1) := by decide +kernel
theorem d_St_comingTo_0 : decode m_St_comingTo.2.1 0 = .ok (.iconst 0, 1) ∧ 0 + 1 = 1 := ⟨by decide +kernel, rfl⟩
theorem d_St_comingTo_1 : decode m_St_comingTo.2.1 1 = .ok (.istore 4, 2) ∧ 1 + 2 = 3 := ⟨by decide +kernel, rfl⟩
theorem d_St_comingTo_3 : decode m_St_comingTo.2.1 3 = .ok (.iconst 0, 1) ∧ 3 + 1 = 4 := ⟨by decide +kernel, rfl⟩
theorem d_St_comingTo_4 : decode m_St_comingTo.2.1 4 = .ok (.istore 5, 2) ∧ 4 + 2 = 6 := ⟨by decide +kernel, rfl⟩
theorem d_St_comingTo_6 : decode m_St_comingTo.2.1 6 = .ok (.iload 5, 2) ∧ 6 + 2 = 8 := ⟨by decide +kernel, rfl⟩
theorem d_St_comingTo_8 : decode m_St_comingTo.2.1 8 = .ok (.aload_n 0, 1) ∧ 8 + 1 = 9 := ⟨by decide +kernel, rfl⟩
theorem d_St_comingTo_9 : decode m_St_comingTo.2.1 9 = .ok (.getfield 27, 3) ∧ 9 + 3 = 12 := ⟨by decide +kernel, rfl⟩
theorem d_St_comingTo_12 : decode m_St_comingTo.2.1 12 = .ok (.iload_n 3, 1) ∧ 12 + 1 = 13 := ⟨by decide +kernel, rfl⟩
theorem d_St_comingTo_13 : decode m_St_comingTo.2.1 13 = .ok (.iaload, 1) ∧ 13 + 1 = 14 := ⟨by decide +kernel, rfl⟩
theorem d_St_comingTo_14 : decode m_St_comingTo.2.1 14 = .ok (.if_icmp .gt 36, 3) ∧ 14 + 3 = 17 ∧ (((14 : Nat) : Int) + (36) = ((50 : Nat) : Int)) := ⟨by decide +kernel, rfl, by decide⟩
theorem d_St_comingTo_17 : decode m_St_comingTo.2.1 17 = .ok (.aload_n 0, 1) ∧ 17 + 1 = 18 := ⟨by decide +kernel, rfl⟩
theorem d_St_comingTo_18 : decode m_St_comingTo.2.1 18 = .ok (.iload_n 3, 1) ∧ 18 + 1 = 19 := ⟨by decide +kernel, rfl⟩
theorem d_St_comingTo_19 : decode m_St_comingTo.2.1 19 = .ok (.iload 5, 2) ∧ 19 + 2 = 21 := ⟨by decide +kernel, rfl⟩
theorem d_St_comingTo_21 : decode m_St_comingTo.2.1 21 = .ok (.iload_n 1, 1) ∧ 21 + 1 = 22 := ⟨by decide +kernel, rfl⟩
theorem d_St_comingTo_22 : decode m_St_comingTo.2.1 22 = .ok (.invokevirtual 164, 3) ∧ 22 + 3 = 25 := ⟨by decide +kernel, rfl⟩
theorem d_St_comingTo_25 : decode m_St_comingTo.2.1 25 = .ok (.iload_n 2, 1) ∧ 25 + 1 = 26 := ⟨by decide +kernel, rfl⟩
theorem d_St_comingTo_26 : decode m_St_comingTo.2.1 26 = .ok (.if_icmp .gt 18, 3) ∧ 26 + 3 = 29 ∧ (((26 : Nat) : Int) + (18) = ((44 : Nat) : Int)) := ⟨by decide +kernel, rfl, by decide⟩
theorem d_St_comingTo_29 : decode m_St_comingTo.2.1 29 = .ok (.iload_n 2, 1) ∧ 29 + 1 = 30 := ⟨by decide +kernel, rfl⟩
theorem d_St_comingTo_30 : decode m_St_comingTo.2.1 30 = .ok (.aload_n 0, 1) ∧ 30 + 1 = 31 := ⟨by decide +kernel, rfl⟩
theorem d_St_comingTo_31 : decode m_St_comingTo.2.1 31 = .ok (.iload_n 3, 1) ∧ 31 + 1 = 32 := ⟨by decide +kernel, rfl⟩
theorem d_St_comingTo_32 : decode m_St_comingTo.2.1 32 = .ok (.iload 5, 2) ∧ 32 + 2 = 34 := ⟨by decide +kernel, rfl⟩
theorem d_St_comingTo_34 : decode m_St_comingTo.2.1 34 = .ok (.iload_n 1, 1) ∧ 34 + 1 = 35 := ⟨by decide +kernel, rfl⟩
theorem d_St_comingTo_35 : decode m_St_comingTo.2.1 35 = .ok (.invokevirtual 160, 3) ∧ 35 + 3 = 38 := ⟨by decide +kernel, rfl⟩
theorem d_St_comingTo_38 : decode m_St_comingTo.2.1 38 = .ok (.if_icmp .gt 6, 3) ∧ 38 + 3 = 41 ∧ (((38 : Nat) : Int) + (6) = ((44 : Nat) : Int)) := ⟨by decide +kernel, rfl, by decide⟩
theorem d_St_comingTo_41 : decode m_St_comingTo.2.1 41 = .ok (.iinc 4 1, 3) ∧ 41 + 3 = 44 := ⟨by decide +kernel, rfl⟩
theorem d_St_comingTo_44 : decode m_St_comingTo.2.1 44 = .ok (.iinc 5 1, 3) ∧ 44 + 3 = 47 := ⟨by decide +kernel, rfl⟩
theorem d_St_comingTo_47 : decode m_St_comingTo.2.1 47 = .ok (.goto (-41), 3) ∧ (((47 : Nat) : Int) + (-41) = ((6 : Nat) : Int)) := ⟨by decide +kernel, by decide⟩
theorem d_St_comingTo_50 : decode m_St_comingTo.2.1 50 = .ok (.iload 4, 2) ∧ 50 + 2 = 52 := ⟨by decide +kernel, rfl⟩
theorem d_St_comingTo_52 : decode m_St_comingTo.2.1 52 = .ok (.ireturn, 1) := by decide +kernel
theorem d_St_lowestBeside_0 : decode m_St_lowestBeside.2.1 0 = .ok (.iload_n 2, 1) ∧ 0 + 1 = 1 := ⟨by decide +kernel, rfl⟩
theorem d_St_lowestBeside_1 : decode m_St_lowestBeside.2.1 1 = .ok (.ifCond .ne 5, 3) ∧ 1 + 3 = 4 ∧ (((1 : Nat) : Int) + (5) = ((6 : Nat) : Int)) := ⟨by decide +kernel, rfl, by decide⟩
theorem d_St_lowestBeside_4 : decode m_St_lowestBeside.2.1 4 = .ok (.iconst 0, 1) ∧ 4 + 1 = 5 := ⟨by decide +kernel, rfl⟩
theorem d_St_lowestBeside_5 : decode m_St_lowestBeside.2.1 5 = .ok (.ireturn, 1) := by decide +kernel
theorem d_St_lowestBeside_6 : decode m_St_lowestBeside.2.1 6 = .ok (.aload_n 0, 1) ∧ 6 + 1 = 7 := ⟨by decide +kernel, rfl⟩
theorem d_St_lowestBeside_7 : decode m_St_lowestBeside.2.1 7 = .ok (.iload_n 1, 1) ∧ 7 + 1 = 8 := ⟨by decide +kernel, rfl⟩
theorem d_St_lowestBeside_8 : decode m_St_lowestBeside.2.1 8 = .ok (.iload_n 2, 1) ∧ 8 + 1 = 9 := ⟨by decide +kernel, rfl⟩
theorem d_St_lowestBeside_9 : decode m_St_lowestBeside.2.1 9 = .ok (.iconst 2, 1) ∧ 9 + 1 = 10 := ⟨by decide +kernel, rfl⟩
theorem d_St_lowestBeside_10 : decode m_St_lowestBeside.2.1 10 = .ok (.irem, 1) ∧ 10 + 1 = 11 := ⟨by decide +kernel, rfl⟩
theorem d_St_lowestBeside_11 : decode m_St_lowestBeside.2.1 11 = .ok (.iconst 1, 1) ∧ 11 + 1 = 12 := ⟨by decide +kernel, rfl⟩
theorem d_St_lowestBeside_12 : decode m_St_lowestBeside.2.1 12 = .ok (.if_icmp .ne 7, 3) ∧ 12 + 3 = 15 ∧ (((12 : Nat) : Int) + (7) = ((19 : Nat) : Int)) := ⟨by decide +kernel, rfl, by decide⟩
theorem d_St_lowestBeside_15 : decode m_St_lowestBeside.2.1 15 = .ok (.iload_n 2, 1) ∧ 15 + 1 = 16 := ⟨by decide +kernel, rfl⟩
theorem d_St_lowestBeside_16 : decode m_St_lowestBeside.2.1 16 = .ok (.goto 6, 3) ∧ (((16 : Nat) : Int) + (6) = ((22 : Nat) : Int)) := ⟨by decide +kernel, by decide⟩
theorem d_St_lowestBeside_19 : decode m_St_lowestBeside.2.1 19 = .ok (.iload_n 2, 1) ∧ 19 + 1 = 20 := ⟨by decide +kernel, rfl⟩
theorem d_St_lowestBeside_20 : decode m_St_lowestBeside.2.1 20 = .ok (.iconst 1, 1) ∧ 20 + 1 = 21 := ⟨by decide +kernel, rfl⟩
theorem d_St_lowestBeside_21 : decode m_St_lowestBeside.2.1 21 = .ok (.isub, 1) ∧ 21 + 1 = 22 := ⟨by decide +kernel, rfl⟩
theorem d_St_lowestBeside_22 : decode m_St_lowestBeside.2.1 22 = .ok (.iload_n 3, 1) ∧ 22 + 1 = 23 := ⟨by decide +kernel, rfl⟩
theorem d_St_lowestBeside_23 : decode m_St_lowestBeside.2.1 23 = .ok (.invokevirtual 170, 3) ∧ 23 + 3 = 26 := ⟨by decide +kernel, rfl⟩
theorem d_St_lowestBeside_26 : decode m_St_lowestBeside.2.1 26 = .ok (.ireturn, 1) := by decide +kernel
theorem d_St_highestBeside_0 : decode m_St_highestBeside.2.1 0 = .ok (.iload_n 2, 1) ∧ 0 + 1 = 1 := ⟨by decide +kernel, rfl⟩
theorem d_St_highestBeside_1 : decode m_St_highestBeside.2.1 1 = .ok (.aload_n 0, 1) ∧ 1 + 1 = 2 := ⟨by decide +kernel, rfl⟩
theorem d_St_highestBeside_2 : decode m_St_highestBeside.2.1 2 = .ok (.getfield 27, 3) ∧ 2 + 3 = 5 := ⟨by decide +kernel, rfl⟩
theorem d_St_highestBeside_5 : decode m_St_highestBeside.2.1 5 = .ok (.iload_n 1, 1) ∧ 5 + 1 = 6 := ⟨by decide +kernel, rfl⟩
theorem d_St_highestBeside_6 : decode m_St_highestBeside.2.1 6 = .ok (.iaload, 1) ∧ 6 + 1 = 7 := ⟨by decide +kernel, rfl⟩
theorem d_St_highestBeside_7 : decode m_St_highestBeside.2.1 7 = .ok (.if_icmp .ne 10, 3) ∧ 7 + 3 = 10 ∧ (((7 : Nat) : Int) + (10) = ((17 : Nat) : Int)) := ⟨by decide +kernel, rfl, by decide⟩
theorem d_St_highestBeside_10 : decode m_St_highestBeside.2.1 10 = .ok (.aload_n 0, 1) ∧ 10 + 1 = 11 := ⟨by decide +kernel, rfl⟩
theorem d_St_highestBeside_11 : decode m_St_highestBeside.2.1 11 = .ok (.getfield 27, 3) ∧ 11 + 3 = 14 := ⟨by decide +kernel, rfl⟩
theorem d_St_highestBeside_14 : decode m_St_highestBeside.2.1 14 = .ok (.iload_n 3, 1) ∧ 14 + 1 = 15 := ⟨by decide +kernel, rfl⟩
theorem d_St_highestBeside_15 : decode m_St_highestBeside.2.1 15 = .ok (.iaload, 1) ∧ 15 + 1 = 16 := ⟨by decide +kernel, rfl⟩
theorem d_St_highestBeside_16 : decode m_St_highestBeside.2.1 16 = .ok (.ireturn, 1) := by decide +kernel
theorem d_St_highestBeside_17 : decode m_St_highestBeside.2.1 17 = .ok (.aload_n 0, 1) ∧ 17 + 1 = 18 := ⟨by decide +kernel, rfl⟩
theorem d_St_highestBeside_18 : decode m_St_highestBeside.2.1 18 = .ok (.iload_n 1, 1) ∧ 18 + 1 = 19 := ⟨by decide +kernel, rfl⟩
theorem d_St_highestBeside_19 : decode m_St_highestBeside.2.1 19 = .ok (.iload_n 2, 1) ∧ 19 + 1 = 20 := ⟨by decide +kernel, rfl⟩
theorem d_St_highestBeside_20 : decode m_St_highestBeside.2.1 20 = .ok (.iconst 2, 1) ∧ 20 + 1 = 21 := ⟨by decide +kernel, rfl⟩
theorem d_St_highestBeside_21 : decode m_St_highestBeside.2.1 21 = .ok (.irem, 1) ∧ 21 + 1 = 22 := ⟨by decide +kernel, rfl⟩
theorem d_St_highestBeside_22 : decode m_St_highestBeside.2.1 22 = .ok (.iconst 1, 1) ∧ 22 + 1 = 23 := ⟨by decide +kernel, rfl⟩
theorem d_St_highestBeside_23 : decode m_St_highestBeside.2.1 23 = .ok (.if_icmp .ne 7, 3) ∧ 23 + 3 = 26 ∧ (((23 : Nat) : Int) + (7) = ((30 : Nat) : Int)) := ⟨by decide +kernel, rfl, by decide⟩
theorem d_St_highestBeside_26 : decode m_St_highestBeside.2.1 26 = .ok (.iload_n 2, 1) ∧ 26 + 1 = 27 := ⟨by decide +kernel, rfl⟩
theorem d_St_highestBeside_27 : decode m_St_highestBeside.2.1 27 = .ok (.goto 6, 3) ∧ (((27 : Nat) : Int) + (6) = ((33 : Nat) : Int)) := ⟨by decide +kernel, by decide⟩
theorem d_St_highestBeside_30 : decode m_St_highestBeside.2.1 30 = .ok (.iload_n 2, 1) ∧ 30 + 1 = 31 := ⟨by decide +kernel, rfl⟩
theorem d_St_highestBeside_31 : decode m_St_highestBeside.2.1 31 = .ok (.iconst 1, 1) ∧ 31 + 1 = 32 := ⟨by decide +kernel, rfl⟩
theorem d_St_highestBeside_32 : decode m_St_highestBeside.2.1 32 = .ok (.iadd, 1) ∧ 32 + 1 = 33 := ⟨by decide +kernel, rfl⟩
theorem d_St_highestBeside_33 : decode m_St_highestBeside.2.1 33 = .ok (.iload_n 3, 1) ∧ 33 + 1 = 34 := ⟨by decide +kernel, rfl⟩
theorem d_St_highestBeside_34 : decode m_St_highestBeside.2.1 34 = .ok (.invokevirtual 170, 3) ∧ 34 + 3 = 37 := ⟨by decide +kernel, rfl⟩
theorem d_St_highestBeside_37 : decode m_St_highestBeside.2.1 37 = .ok (.ireturn, 1) := by decide +kernel
theorem d_St_sectionBeside_0 : decode m_St_sectionBeside.2.1 0 = .ok (.iconst 0, 1) ∧ 0 + 1 = 1 := ⟨by decide +kernel, rfl⟩
theorem d_St_sectionBeside_1 : decode m_St_sectionBeside.2.1 1 = .ok (.istore 4, 2) ∧ 1 + 2 = 3 := ⟨by decide +kernel, rfl⟩
theorem d_St_sectionBeside_3 : decode m_St_sectionBeside.2.1 3 = .ok (.iload 4, 2) ∧ 3 + 2 = 5 := ⟨by decide +kernel, rfl⟩
theorem d_St_sectionBeside_5 : decode m_St_sectionBeside.2.1 5 = .ok (.aload_n 0, 1) ∧ 5 + 1 = 6 := ⟨by decide +kernel, rfl⟩
theorem d_St_sectionBeside_6 : decode m_St_sectionBeside.2.1 6 = .ok (.getfield 24, 3) ∧ 6 + 3 = 9 := ⟨by decide +kernel, rfl⟩
theorem d_St_sectionBeside_9 : decode m_St_sectionBeside.2.1 9 = .ok (.if_icmp .ge 46, 3) ∧ 9 + 3 = 12 ∧ (((9 : Nat) : Int) + (46) = ((55 : Nat) : Int)) := ⟨by decide +kernel, rfl, by decide⟩
theorem d_St_sectionBeside_12 : decode m_St_sectionBeside.2.1 12 = .ok (.aload_n 0, 1) ∧ 12 + 1 = 13 := ⟨by decide +kernel, rfl⟩
theorem d_St_sectionBeside_13 : decode m_St_sectionBeside.2.1 13 = .ok (.getfield 34, 3) ∧ 13 + 3 = 16 := ⟨by decide +kernel, rfl⟩
theorem d_St_sectionBeside_16 : decode m_St_sectionBeside.2.1 16 = .ok (.iload 4, 2) ∧ 16 + 2 = 18 := ⟨by decide +kernel, rfl⟩
theorem d_St_sectionBeside_18 : decode m_St_sectionBeside.2.1 18 = .ok (.baload, 1) ∧ 18 + 1 = 19 := ⟨by decide +kernel, rfl⟩
theorem d_St_sectionBeside_19 : decode m_St_sectionBeside.2.1 19 = .ok (.ifCond .ne 30, 3) ∧ 19 + 3 = 22 ∧ (((19 : Nat) : Int) + (30) = ((49 : Nat) : Int)) := ⟨by decide +kernel, rfl, by decide⟩
theorem d_St_sectionBeside_22 : decode m_St_sectionBeside.2.1 22 = .ok (.aload_n 0, 1) ∧ 22 + 1 = 23 := ⟨by decide +kernel, rfl⟩
theorem d_St_sectionBeside_23 : decode m_St_sectionBeside.2.1 23 = .ok (.getfield 31, 3) ∧ 23 + 3 = 26 := ⟨by decide +kernel, rfl⟩
theorem d_St_sectionBeside_26 : decode m_St_sectionBeside.2.1 26 = .ok (.iconst 4, 1) ∧ 26 + 1 = 27 := ⟨by decide +kernel, rfl⟩
theorem d_St_sectionBeside_27 : decode m_St_sectionBeside.2.1 27 = .ok (.iload_n 1, 1) ∧ 27 + 1 = 28 := ⟨by decide +kernel, rfl⟩
theorem d_St_sectionBeside_28 : decode m_St_sectionBeside.2.1 28 = .ok (.imul, 1) ∧ 28 + 1 = 29 := ⟨by decide +kernel, rfl⟩
theorem d_St_sectionBeside_29 : decode m_St_sectionBeside.2.1 29 = .ok (.iload 4, 2) ∧ 29 + 2 = 31 := ⟨by decide +kernel, rfl⟩
theorem d_St_sectionBeside_31 : decode m_St_sectionBeside.2.1 31 = .ok (.iadd, 1) ∧ 31 + 1 = 32 := ⟨by decide +kernel, rfl⟩
theorem d_St_sectionBeside_32 : decode m_St_sectionBeside.2.1 32 = .ok (.iaload, 1) ∧ 32 + 1 = 33 := ⟨by decide +kernel, rfl⟩
theorem d_St_sectionBeside_33 : decode m_St_sectionBeside.2.1 33 = .ok (.iload_n 2, 1) ∧ 33 + 1 = 34 := ⟨by decide +kernel, rfl⟩
theorem d_St_sectionBeside_34 : decode m_St_sectionBeside.2.1 34 = .ok (.if_icmp .ne 15, 3) ∧ 34 + 3 = 37 ∧ (((34 : Nat) : Int) + (15) = ((49 : Nat) : Int)) := ⟨by decide +kernel, rfl, by decide⟩
theorem d_St_sectionBeside_37 : decode m_St_sectionBeside.2.1 37 = .ok (.aload_n 0, 1) ∧ 37 + 1 = 38 := ⟨by decide +kernel, rfl⟩
theorem d_St_sectionBeside_38 : decode m_St_sectionBeside.2.1 38 = .ok (.getfield 31, 3) ∧ 38 + 3 = 41 := ⟨by decide +kernel, rfl⟩
theorem d_St_sectionBeside_41 : decode m_St_sectionBeside.2.1 41 = .ok (.iconst 4, 1) ∧ 41 + 1 = 42 := ⟨by decide +kernel, rfl⟩
theorem d_St_sectionBeside_42 : decode m_St_sectionBeside.2.1 42 = .ok (.iload_n 3, 1) ∧ 42 + 1 = 43 := ⟨by decide +kernel, rfl⟩
theorem d_St_sectionBeside_43 : decode m_St_sectionBeside.2.1 43 = .ok (.imul, 1) ∧ 43 + 1 = 44 := ⟨by decide +kernel, rfl⟩
theorem d_St_sectionBeside_44 : decode m_St_sectionBeside.2.1 44 = .ok (.iload 4, 2) ∧ 44 + 2 = 46 := ⟨by decide +kernel, rfl⟩
theorem d_St_sectionBeside_46 : decode m_St_sectionBeside.2.1 46 = .ok (.iadd, 1) ∧ 46 + 1 = 47 := ⟨by decide +kernel, rfl⟩
theorem d_St_sectionBeside_47 : decode m_St_sectionBeside.2.1 47 = .ok (.iaload, 1) ∧ 47 + 1 = 48 := ⟨by decide +kernel, rfl⟩
theorem d_St_sectionBeside_48 : decode m_St_sectionBeside.2.1 48 = .ok (.ireturn, 1) := by decide +kernel
theorem d_St_sectionBeside_49 : decode m_St_sectionBeside.2.1 49 = .ok (.iinc 4 1, 3) ∧ 49 + 3 = 52 := ⟨by decide +kernel, rfl⟩
theorem d_St_sectionBeside_52 : decode m_St_sectionBeside.2.1 52 = .ok (.goto (-49), 3) ∧ (((52 : Nat) : Int) + (-49) = ((3 : Nat) : Int)) := ⟨by decide +kernel, by decide⟩
theorem d_St_sectionBeside_55 : decode m_St_sectionBeside.2.1 55 = .ok (.iconst 0, 1) ∧ 55 + 1 = 56 := ⟨by decide +kernel, rfl⟩
theorem d_St_sectionBeside_56 : decode m_St_sectionBeside.2.1 56 = .ok (.ireturn, 1) := by decide +kernel
