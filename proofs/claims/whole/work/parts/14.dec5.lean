theorem d_Mo_comesTo_0 : decode m_Mo_comesTo.2.1 0 = .ok (.iconst 0, 1) ∧ 0 + 1 = 1 := ⟨by decide +kernel, rfl⟩
theorem d_Mo_comesTo_1 : decode m_Mo_comesTo.2.1 1 = .ok (.istore 4, 2) ∧ 1 + 2 = 3 := ⟨by decide +kernel, rfl⟩
theorem d_Mo_comesTo_3 : decode m_Mo_comesTo.2.1 3 = .ok (.iconst 0, 1) ∧ 3 + 1 = 4 := ⟨by decide +kernel, rfl⟩
theorem d_Mo_comesTo_4 : decode m_Mo_comesTo.2.1 4 = .ok (.istore 5, 2) ∧ 4 + 2 = 6 := ⟨by decide +kernel, rfl⟩
theorem d_Mo_comesTo_6 : decode m_Mo_comesTo.2.1 6 = .ok (.iload 5, 2) ∧ 6 + 2 = 8 := ⟨by decide +kernel, rfl⟩
theorem d_Mo_comesTo_8 : decode m_Mo_comesTo.2.1 8 = .ok (.aload_n 0, 1) ∧ 8 + 1 = 9 := ⟨by decide +kernel, rfl⟩
theorem d_Mo_comesTo_9 : decode m_Mo_comesTo.2.1 9 = .ok (.getfield 103, 3) ∧ 9 + 3 = 12 := ⟨by decide +kernel, rfl⟩
theorem d_Mo_comesTo_12 : decode m_Mo_comesTo.2.1 12 = .ok (.if_icmp .ge 51, 3) ∧ 12 + 3 = 15 ∧ (((12 : Nat) : Int) + (51) = ((63 : Nat) : Int)) := ⟨by decide +kernel, rfl, by decide⟩
theorem d_Mo_comesTo_15 : decode m_Mo_comesTo.2.1 15 = .ok (.aload_n 0, 1) ∧ 15 + 1 = 16 := ⟨by decide +kernel, rfl⟩
theorem d_Mo_comesTo_16 : decode m_Mo_comesTo.2.1 16 = .ok (.iload 5, 2) ∧ 16 + 2 = 18 := ⟨by decide +kernel, rfl⟩
theorem d_Mo_comesTo_18 : decode m_Mo_comesTo.2.1 18 = .ok (.invokevirtual 173, 3) ∧ 18 + 3 = 21 := ⟨by decide +kernel, rfl⟩
theorem d_Mo_comesTo_21 : decode m_Mo_comesTo.2.1 21 = .ok (.ifCond .ne 32, 3) ∧ 21 + 3 = 24 ∧ (((21 : Nat) : Int) + (32) = ((53 : Nat) : Int)) := ⟨by decide +kernel, rfl, by decide⟩
theorem d_Mo_comesTo_24 : decode m_Mo_comesTo.2.1 24 = .ok (.aload_n 0, 1) ∧ 24 + 1 = 25 := ⟨by decide +kernel, rfl⟩
theorem d_Mo_comesTo_25 : decode m_Mo_comesTo.2.1 25 = .ok (.getfield 38, 3) ∧ 25 + 3 = 28 := ⟨by decide +kernel, rfl⟩
theorem d_Mo_comesTo_28 : decode m_Mo_comesTo.2.1 28 = .ok (.iconst 4, 1) ∧ 28 + 1 = 29 := ⟨by decide +kernel, rfl⟩
theorem d_Mo_comesTo_29 : decode m_Mo_comesTo.2.1 29 = .ok (.iload_n 1, 1) ∧ 29 + 1 = 30 := ⟨by decide +kernel, rfl⟩
theorem d_Mo_comesTo_30 : decode m_Mo_comesTo.2.1 30 = .ok (.imul, 1) ∧ 30 + 1 = 31 := ⟨by decide +kernel, rfl⟩
theorem d_Mo_comesTo_31 : decode m_Mo_comesTo.2.1 31 = .ok (.iload 5, 2) ∧ 31 + 2 = 33 := ⟨by decide +kernel, rfl⟩
theorem d_Mo_comesTo_33 : decode m_Mo_comesTo.2.1 33 = .ok (.iadd, 1) ∧ 33 + 1 = 34 := ⟨by decide +kernel, rfl⟩
theorem d_Mo_comesTo_34 : decode m_Mo_comesTo.2.1 34 = .ok (.iaload, 1) ∧ 34 + 1 = 35 := ⟨by decide +kernel, rfl⟩
theorem d_Mo_comesTo_35 : decode m_Mo_comesTo.2.1 35 = .ok (.iload_n 2, 1) ∧ 35 + 1 = 36 := ⟨by decide +kernel, rfl⟩
theorem d_Mo_comesTo_36 : decode m_Mo_comesTo.2.1 36 = .ok (.if_icmp .ne 17, 3) ∧ 36 + 3 = 39 ∧ (((36 : Nat) : Int) + (17) = ((53 : Nat) : Int)) := ⟨by decide +kernel, rfl, by decide⟩
theorem d_Mo_comesTo_39 : decode m_Mo_comesTo.2.1 39 = .ok (.aload_n 0, 1) ∧ 39 + 1 = 40 := ⟨by decide +kernel, rfl⟩
theorem d_Mo_comesTo_40 : decode m_Mo_comesTo.2.1 40 = .ok (.getfield 38, 3) ∧ 40 + 3 = 43 := ⟨by decide +kernel, rfl⟩
theorem d_Mo_comesTo_43 : decode m_Mo_comesTo.2.1 43 = .ok (.iconst 4, 1) ∧ 43 + 1 = 44 := ⟨by decide +kernel, rfl⟩
theorem d_Mo_comesTo_44 : decode m_Mo_comesTo.2.1 44 = .ok (.iload_n 3, 1) ∧ 44 + 1 = 45 := ⟨by decide +kernel, rfl⟩
theorem d_Mo_comesTo_45 : decode m_Mo_comesTo.2.1 45 = .ok (.imul, 1) ∧ 45 + 1 = 46 := ⟨by decide +kernel, rfl⟩
theorem d_Mo_comesTo_46 : decode m_Mo_comesTo.2.1 46 = .ok (.iload 5, 2) ∧ 46 + 2 = 48 := ⟨by decide +kernel, rfl⟩
theorem d_Mo_comesTo_48 : decode m_Mo_comesTo.2.1 48 = .ok (.iadd, 1) ∧ 48 + 1 = 49 := ⟨by decide +kernel, rfl⟩
theorem d_Mo_comesTo_49 : decode m_Mo_comesTo.2.1 49 = .ok (.iaload, 1) ∧ 49 + 1 = 50 := ⟨by decide +kernel, rfl⟩
theorem d_Mo_comesTo_50 : decode m_Mo_comesTo.2.1 50 = .ok (.goto 5, 3) ∧ (((50 : Nat) : Int) + (5) = ((55 : Nat) : Int)) := ⟨by decide +kernel, by decide⟩
theorem d_Mo_comesTo_53 : decode m_Mo_comesTo.2.1 53 = .ok (.iload 4, 2) ∧ 53 + 2 = 55 := ⟨by decide +kernel, rfl⟩
theorem d_Mo_comesTo_55 : decode m_Mo_comesTo.2.1 55 = .ok (.istore 4, 2) ∧ 55 + 2 = 57 := ⟨by decide +kernel, rfl⟩
theorem d_Mo_comesTo_57 : decode m_Mo_comesTo.2.1 57 = .ok (.iinc 5 1, 3) ∧ 57 + 3 = 60 := ⟨by decide +kernel, rfl⟩
theorem d_Mo_comesTo_60 : decode m_Mo_comesTo.2.1 60 = .ok (.goto (-54), 3) ∧ (((60 : Nat) : Int) + (-54) = ((6 : Nat) : Int)) := ⟨by decide +kernel, by decide⟩
theorem d_Mo_comesTo_63 : decode m_Mo_comesTo.2.1 63 = .ok (.iload 4, 2) ∧ 63 + 2 = 65 := ⟨by decide +kernel, rfl⟩
theorem d_Mo_comesTo_65 : decode m_Mo_comesTo.2.1 65 = .ok (.ireturn, 1) := by decide +kernel
theorem d_Mo_isBeside_0 : decode m_Mo_isBeside.2.1 0 = .ok (.iload_n 2, 1) ∧ 0 + 1 = 1 := ⟨by decide +kernel, rfl⟩
theorem d_Mo_isBeside_1 : decode m_Mo_isBeside.2.1 1 = .ok (.iconst 2, 1) ∧ 1 + 1 = 2 := ⟨by decide +kernel, rfl⟩
theorem d_Mo_isBeside_2 : decode m_Mo_isBeside.2.1 2 = .ok (.irem, 1) ∧ 2 + 1 = 3 := ⟨by decide +kernel, rfl⟩
theorem d_Mo_isBeside_3 : decode m_Mo_isBeside.2.1 3 = .ok (.iconst 1, 1) ∧ 3 + 1 = 4 := ⟨by decide +kernel, rfl⟩
theorem d_Mo_isBeside_4 : decode m_Mo_isBeside.2.1 4 = .ok (.if_icmp .ne 27, 3) ∧ 4 + 3 = 7 ∧ (((4 : Nat) : Int) + (27) = ((31 : Nat) : Int)) := ⟨by decide +kernel, rfl, by decide⟩
theorem d_Mo_isBeside_7 : decode m_Mo_isBeside.2.1 7 = .ok (.iload 4, 2) ∧ 7 + 2 = 9 := ⟨by decide +kernel, rfl⟩
theorem d_Mo_isBeside_9 : decode m_Mo_isBeside.2.1 9 = .ok (.iconst 2, 1) ∧ 9 + 1 = 10 := ⟨by decide +kernel, rfl⟩
theorem d_Mo_isBeside_10 : decode m_Mo_isBeside.2.1 10 = .ok (.aload_n 0, 1) ∧ 10 + 1 = 11 := ⟨by decide +kernel, rfl⟩
theorem d_Mo_isBeside_11 : decode m_Mo_isBeside.2.1 11 = .ok (.iload_n 1, 1) ∧ 11 + 1 = 12 := ⟨by decide +kernel, rfl⟩
theorem d_Mo_isBeside_12 : decode m_Mo_isBeside.2.1 12 = .ok (.iload_n 2, 1) ∧ 12 + 1 = 13 := ⟨by decide +kernel, rfl⟩
theorem d_Mo_isBeside_13 : decode m_Mo_isBeside.2.1 13 = .ok (.iconst 2, 1) ∧ 13 + 1 = 14 := ⟨by decide +kernel, rfl⟩
theorem d_Mo_isBeside_14 : decode m_Mo_isBeside.2.1 14 = .ok (.idiv, 1) ∧ 14 + 1 = 15 := ⟨by decide +kernel, rfl⟩
theorem d_Mo_isBeside_15 : decode m_Mo_isBeside.2.1 15 = .ok (.iload_n 3, 1) ∧ 15 + 1 = 16 := ⟨by decide +kernel, rfl⟩
theorem d_Mo_isBeside_16 : decode m_Mo_isBeside.2.1 16 = .ok (.invokevirtual 233, 3) ∧ 16 + 3 = 19 := ⟨by decide +kernel, rfl⟩
theorem d_Mo_isBeside_19 : decode m_Mo_isBeside.2.1 19 = .ok (.imul, 1) ∧ 19 + 1 = 20 := ⟨by decide +kernel, rfl⟩
theorem d_Mo_isBeside_20 : decode m_Mo_isBeside.2.1 20 = .ok (.iconst 1, 1) ∧ 20 + 1 = 21 := ⟨by decide +kernel, rfl⟩
theorem d_Mo_isBeside_21 : decode m_Mo_isBeside.2.1 21 = .ok (.iadd, 1) ∧ 21 + 1 = 22 := ⟨by decide +kernel, rfl⟩
theorem d_Mo_isBeside_22 : decode m_Mo_isBeside.2.1 22 = .ok (.if_icmp .ne 7, 3) ∧ 22 + 3 = 25 ∧ (((22 : Nat) : Int) + (7) = ((29 : Nat) : Int)) := ⟨by decide +kernel, rfl, by decide⟩
theorem d_Mo_isBeside_25 : decode m_Mo_isBeside.2.1 25 = .ok (.iconst 1, 1) ∧ 25 + 1 = 26 := ⟨by decide +kernel, rfl⟩
theorem d_Mo_isBeside_26 : decode m_Mo_isBeside.2.1 26 = .ok (.goto 4, 3) ∧ (((26 : Nat) : Int) + (4) = ((30 : Nat) : Int)) := ⟨by decide +kernel, by decide⟩
theorem d_Mo_isBeside_29 : decode m_Mo_isBeside.2.1 29 = .ok (.iconst 0, 1) ∧ 29 + 1 = 30 := ⟨by decide +kernel, rfl⟩
theorem d_Mo_isBeside_30 : decode m_Mo_isBeside.2.1 30 = .ok (.ireturn, 1) := by decide +kernel
theorem d_Mo_isBeside_31 : decode m_Mo_isBeside.2.1 31 = .ok (.iload_n 2, 1) ∧ 31 + 1 = 32 := ⟨by decide +kernel, rfl⟩
theorem d_Mo_isBeside_32 : decode m_Mo_isBeside.2.1 32 = .ok (.ifCond .ne 7, 3) ∧ 32 + 3 = 35 ∧ (((32 : Nat) : Int) + (7) = ((39 : Nat) : Int)) := ⟨by decide +kernel, rfl, by decide⟩
theorem d_Mo_isBeside_35 : decode m_Mo_isBeside.2.1 35 = .ok (.iconst 0, 1) ∧ 35 + 1 = 36 := ⟨by decide +kernel, rfl⟩
theorem d_Mo_isBeside_36 : decode m_Mo_isBeside.2.1 36 = .ok (.goto 18, 3) ∧ (((36 : Nat) : Int) + (18) = ((54 : Nat) : Int)) := ⟨by decide +kernel, by decide⟩
theorem d_Mo_isBeside_39 : decode m_Mo_isBeside.2.1 39 = .ok (.iconst 2, 1) ∧ 39 + 1 = 40 := ⟨by decide +kernel, rfl⟩
theorem d_Mo_isBeside_40 : decode m_Mo_isBeside.2.1 40 = .ok (.aload_n 0, 1) ∧ 40 + 1 = 41 := ⟨by decide +kernel, rfl⟩
theorem d_Mo_isBeside_41 : decode m_Mo_isBeside.2.1 41 = .ok (.iload_n 1, 1) ∧ 41 + 1 = 42 := ⟨by decide +kernel, rfl⟩
theorem d_Mo_isBeside_42 : decode m_Mo_isBeside.2.1 42 = .ok (.iload_n 2, 1) ∧ 42 + 1 = 43 := ⟨by decide +kernel, rfl⟩
theorem d_Mo_isBeside_43 : decode m_Mo_isBeside.2.1 43 = .ok (.iconst 2, 1) ∧ 43 + 1 = 44 := ⟨by decide +kernel, rfl⟩
theorem d_Mo_isBeside_44 : decode m_Mo_isBeside.2.1 44 = .ok (.idiv, 1) ∧ 44 + 1 = 45 := ⟨by decide +kernel, rfl⟩
theorem d_Mo_isBeside_45 : decode m_Mo_isBeside.2.1 45 = .ok (.iconst 1, 1) ∧ 45 + 1 = 46 := ⟨by decide +kernel, rfl⟩
theorem d_Mo_isBeside_46 : decode m_Mo_isBeside.2.1 46 = .ok (.isub, 1) ∧ 46 + 1 = 47 := ⟨by decide +kernel, rfl⟩
theorem d_Mo_isBeside_47 : decode m_Mo_isBeside.2.1 47 = .ok (.iload_n 3, 1) ∧ 47 + 1 = 48 := ⟨by decide +kernel, rfl⟩
theorem d_Mo_isBeside_48 : decode m_Mo_isBeside.2.1 48 = .ok (.invokevirtual 233, 3) ∧ 48 + 3 = 51 := ⟨by decide +kernel, rfl⟩
theorem d_Mo_isBeside_51 : decode m_Mo_isBeside.2.1 51 = .ok (.imul, 1) ∧ 51 + 1 = 52 := ⟨by decide +kernel, rfl⟩
theorem d_Mo_isBeside_52 : decode m_Mo_isBeside.2.1 52 = .ok (.iconst 1, 1) ∧ 52 + 1 = 53 := ⟨by decide +kernel, rfl⟩
theorem d_Mo_isBeside_53 : decode m_Mo_isBeside.2.1 53 = .ok (.iadd, 1) ∧ 53 + 1 = 54 := ⟨by decide +kernel, rfl⟩
theorem d_Mo_isBeside_54 : decode m_Mo_isBeside.2.1 54 = .ok (.istore 5, 2) ∧ 54 + 2 = 56 := ⟨by decide +kernel, rfl⟩
theorem d_Mo_isBeside_56 : decode m_Mo_isBeside.2.1 56 = .ok (.iload_n 2, 1) ∧ 56 + 1 = 57 := ⟨by decide +kernel, rfl⟩
theorem d_Mo_isBeside_57 : decode m_Mo_isBeside.2.1 57 = .ok (.iconst 2, 1) ∧ 57 + 1 = 58 := ⟨by decide +kernel, rfl⟩
theorem d_Mo_isBeside_58 : decode m_Mo_isBeside.2.1 58 = .ok (.idiv, 1) ∧ 58 + 1 = 59 := ⟨by decide +kernel, rfl⟩
theorem d_Mo_isBeside_59 : decode m_Mo_isBeside.2.1 59 = .ok (.aload_n 0, 1) ∧ 59 + 1 = 60 := ⟨by decide +kernel, rfl⟩
theorem d_Mo_isBeside_60 : decode m_Mo_isBeside.2.1 60 = .ok (.getfield 41, 3) ∧ 60 + 3 = 63 := ⟨by decide +kernel, rfl⟩
theorem d_Mo_isBeside_63 : decode m_Mo_isBeside.2.1 63 = .ok (.iload_n 1, 1) ∧ 63 + 1 = 64 := ⟨by decide +kernel, rfl⟩
theorem d_Mo_isBeside_64 : decode m_Mo_isBeside.2.1 64 = .ok (.iaload, 1) ∧ 64 + 1 = 65 := ⟨by decide +kernel, rfl⟩
theorem d_Mo_isBeside_65 : decode m_Mo_isBeside.2.1 65 = .ok (.if_icmp .ne 13, 3) ∧ 65 + 3 = 68 ∧ (((65 : Nat) : Int) + (13) = ((78 : Nat) : Int)) := ⟨by decide +kernel, rfl, by decide⟩
theorem d_Mo_isBeside_68 : decode m_Mo_isBeside.2.1 68 = .ok (.aload_n 0, 1) ∧ 68 + 1 = 69 := ⟨by decide +kernel, rfl⟩
theorem d_Mo_isBeside_69 : decode m_Mo_isBeside.2.1 69 = .ok (.iload_n 3, 1) ∧ 69 + 1 = 70 := ⟨by decide +kernel, rfl⟩
theorem d_Mo_isBeside_70 : decode m_Mo_isBeside.2.1 70 = .ok (.invokevirtual 210, 3) ∧ 70 + 3 = 73 := ⟨by decide +kernel, rfl⟩
theorem d_Mo_isBeside_73 : decode m_Mo_isBeside.2.1 73 = .ok (.iconst 1, 1) ∧ 73 + 1 = 74 := ⟨by decide +kernel, rfl⟩
theorem d_Mo_isBeside_74 : decode m_Mo_isBeside.2.1 74 = .ok (.isub, 1) ∧ 74 + 1 = 75 := ⟨by decide +kernel, rfl⟩
theorem d_Mo_isBeside_75 : decode m_Mo_isBeside.2.1 75 = .ok (.goto 16, 3) ∧ (((75 : Nat) : Int) + (16) = ((91 : Nat) : Int)) := ⟨by decide +kernel, by decide⟩
theorem d_Mo_isBeside_78 : decode m_Mo_isBeside.2.1 78 = .ok (.iconst 2, 1) ∧ 78 + 1 = 79 := ⟨by decide +kernel, rfl⟩
theorem d_Mo_isBeside_79 : decode m_Mo_isBeside.2.1 79 = .ok (.aload_n 0, 1) ∧ 79 + 1 = 80 := ⟨by decide +kernel, rfl⟩
theorem d_Mo_isBeside_80 : decode m_Mo_isBeside.2.1 80 = .ok (.iload_n 1, 1) ∧ 80 + 1 = 81 := ⟨by decide +kernel, rfl⟩
theorem d_Mo_isBeside_81 : decode m_Mo_isBeside.2.1 81 = .ok (.iload_n 2, 1) ∧ 81 + 1 = 82 := ⟨by decide +kernel, rfl⟩
theorem d_Mo_isBeside_82 : decode m_Mo_isBeside.2.1 82 = .ok (.iconst 2, 1) ∧ 82 + 1 = 83 := ⟨by decide +kernel, rfl⟩
theorem d_Mo_isBeside_83 : decode m_Mo_isBeside.2.1 83 = .ok (.idiv, 1) ∧ 83 + 1 = 84 := ⟨by decide +kernel, rfl⟩
theorem d_Mo_isBeside_84 : decode m_Mo_isBeside.2.1 84 = .ok (.iload_n 3, 1) ∧ 84 + 1 = 85 := ⟨by decide +kernel, rfl⟩
theorem d_Mo_isBeside_85 : decode m_Mo_isBeside.2.1 85 = .ok (.invokevirtual 233, 3) ∧ 85 + 3 = 88 := ⟨by decide +kernel, rfl⟩
theorem d_Mo_isBeside_88 : decode m_Mo_isBeside.2.1 88 = .ok (.imul, 1) ∧ 88 + 1 = 89 := ⟨by decide +kernel, rfl⟩
theorem d_Mo_isBeside_89 : decode m_Mo_isBeside.2.1 89 = .ok (.iconst 1, 1) ∧ 89 + 1 = 90 := ⟨by decide +kernel, rfl⟩
theorem d_Mo_isBeside_90 : decode m_Mo_isBeside.2.1 90 = .ok (.iadd, 1) ∧ 90 + 1 = 91 := ⟨by decide +kernel, rfl⟩
theorem d_Mo_isBeside_91 : decode m_Mo_isBeside.2.1 91 = .ok (.istore 6, 2) ∧ 91 + 2 = 93 := ⟨by decide +kernel, rfl⟩
theorem d_Mo_isBeside_93 : decode m_Mo_isBeside.2.1 93 = .ok (.iload 4, 2) ∧ 93 + 2 = 95 := ⟨by decide +kernel, rfl⟩
theorem d_Mo_isBeside_95 : decode m_Mo_isBeside.2.1 95 = .ok (.i2l, 1) ∧ 95 + 1 = 96 := ⟨by decide +kernel, rfl⟩
theorem d_Mo_isBeside_96 : decode m_Mo_isBeside.2.1 96 = .ok (.iload 5, 2) ∧ 96 + 2 = 98 := ⟨by decide +kernel, rfl⟩
theorem d_Mo_isBeside_98 : decode m_Mo_isBeside.2.1 98 = .ok (.i2l, 1) ∧ 98 + 1 = 99 := ⟨by decide +kernel, rfl⟩
theorem d_Mo_isBeside_99 : decode m_Mo_isBeside.2.1 99 = .ok (.iload 6, 2) ∧ 99 + 2 = 101 := ⟨by decide +kernel, rfl⟩
theorem d_Mo_isBeside_101 : decode m_Mo_isBeside.2.1 101 = .ok (.i2l, 1) ∧ 101 + 1 = 102 := ⟨by decide +kernel, rfl⟩
theorem d_Mo_isBeside_102 : decode m_Mo_isBeside.2.1 102 = .ok (.invokestatic 80, 3) ∧ 102 + 3 = 105 := ⟨by decide +kernel, rfl⟩
theorem d_Mo_isBeside_105 : decode m_Mo_isBeside.2.1 105 = .ok (.ireturn, 1) := by decide +kernel
theorem d_Mo_isNeighbour_0 : decode m_Mo_isNeighbour.2.1 0 = .ok (.iload_n 1, 1) ∧ 0 + 1 = 1 := ⟨by decide +kernel, rfl⟩
theorem d_Mo_isNeighbour_1 : decode m_Mo_isNeighbour.2.1 1 = .ok (.iload_n 3, 1) ∧ 1 + 1 = 2 := ⟨by decide +kernel, rfl⟩
theorem d_Mo_isNeighbour_2 : decode m_Mo_isNeighbour.2.1 2 = .ok (.if_icmp .ne 25, 3) ∧ 2 + 3 = 5 ∧ (((2 : Nat) : Int) + (25) = ((27 : Nat) : Int)) := ⟨by decide +kernel, rfl, by decide⟩
theorem d_Mo_isNeighbour_5 : decode m_Mo_isNeighbour.2.1 5 = .ok (.iload_n 2, 1) ∧ 5 + 1 = 6 := ⟨by decide +kernel, rfl⟩
theorem d_Mo_isNeighbour_6 : decode m_Mo_isNeighbour.2.1 6 = .ok (.iload 4, 2) ∧ 6 + 2 = 8 := ⟨by decide +kernel, rfl⟩
theorem d_Mo_isNeighbour_8 : decode m_Mo_isNeighbour.2.1 8 = .ok (.isub, 1) ∧ 8 + 1 = 9 := ⟨by decide +kernel, rfl⟩
theorem d_Mo_isNeighbour_9 : decode m_Mo_isNeighbour.2.1 9 = .ok (.iconst 1, 1) ∧ 9 + 1 = 10 := ⟨by decide +kernel, rfl⟩
theorem d_Mo_isNeighbour_10 : decode m_Mo_isNeighbour.2.1 10 = .ok (.if_icmp .eq 11, 3) ∧ 10 + 3 = 13 ∧ (((10 : Nat) : Int) + (11) = ((21 : Nat) : Int)) := ⟨by decide +kernel, rfl, by decide⟩
theorem d_Mo_isNeighbour_13 : decode m_Mo_isNeighbour.2.1 13 = .ok (.iload 4, 2) ∧ 13 + 2 = 15 := ⟨by decide +kernel, rfl⟩
theorem d_Mo_isNeighbour_15 : decode m_Mo_isNeighbour.2.1 15 = .ok (.iload_n 2, 1) ∧ 15 + 1 = 16 := ⟨by decide +kernel, rfl⟩
theorem d_Mo_isNeighbour_16 : decode m_Mo_isNeighbour.2.1 16 = .ok (.isub, 1) ∧ 16 + 1 = 17 := ⟨by decide +kernel, rfl⟩
theorem d_Mo_isNeighbour_17 : decode m_Mo_isNeighbour.2.1 17 = .ok (.iconst 1, 1) ∧ 17 + 1 = 18 := ⟨by decide +kernel, rfl⟩
theorem d_Mo_isNeighbour_18 : decode m_Mo_isNeighbour.2.1 18 = .ok (.if_icmp .ne 7, 3) ∧ 18 + 3 = 21 ∧ (((18 : Nat) : Int) + (7) = ((25 : Nat) : Int)) := ⟨by decide +kernel, rfl, by decide⟩
theorem d_Mo_isNeighbour_21 : decode m_Mo_isNeighbour.2.1 21 = .ok (.iconst 1, 1) ∧ 21 + 1 = 22 := ⟨by decide +kernel, rfl⟩
theorem d_Mo_isNeighbour_22 : decode m_Mo_isNeighbour.2.1 22 = .ok (.goto 4, 3) ∧ (((22 : Nat) : Int) + (4) = ((26 : Nat) : Int)) := ⟨by decide +kernel, by decide⟩
theorem d_Mo_isNeighbour_25 : decode m_Mo_isNeighbour.2.1 25 = .ok (.iconst 0, 1) ∧ 25 + 1 = 26 := ⟨by decide +kernel, rfl⟩
theorem d_Mo_isNeighbour_26 : decode m_Mo_isNeighbour.2.1 26 = .ok (.ireturn, 1) := by decide +kernel
theorem d_Mo_isNeighbour_27 : decode m_Mo_isNeighbour.2.1 27 = .ok (.iload_n 1, 1) ∧ 27 + 1 = 28 := ⟨by decide +kernel, rfl⟩
theorem d_Mo_isNeighbour_28 : decode m_Mo_isNeighbour.2.1 28 = .ok (.iload_n 3, 1) ∧ 28 + 1 = 29 := ⟨by decide +kernel, rfl⟩
theorem d_Mo_isNeighbour_29 : decode m_Mo_isNeighbour.2.1 29 = .ok (.isub, 1) ∧ 29 + 1 = 30 := ⟨by decide +kernel, rfl⟩
theorem d_Mo_isNeighbour_30 : decode m_Mo_isNeighbour.2.1 30 = .ok (.iconst 1, 1) ∧ 30 + 1 = 31 := ⟨by decide +kernel, rfl⟩
theorem d_Mo_isNeighbour_31 : decode m_Mo_isNeighbour.2.1 31 = .ok (.if_icmp .eq 10, 3) ∧ 31 + 3 = 34 ∧ (((31 : Nat) : Int) + (10) = ((41 : Nat) : Int)) := ⟨by decide +kernel, rfl, by decide⟩
theorem d_Mo_isNeighbour_34 : decode m_Mo_isNeighbour.2.1 34 = .ok (.iload_n 3, 1) ∧ 34 + 1 = 35 := ⟨by decide +kernel, rfl⟩
theorem d_Mo_isNeighbour_35 : decode m_Mo_isNeighbour.2.1 35 = .ok (.iload_n 1, 1) ∧ 35 + 1 = 36 := ⟨by decide +kernel, rfl⟩
theorem d_Mo_isNeighbour_36 : decode m_Mo_isNeighbour.2.1 36 = .ok (.isub, 1) ∧ 36 + 1 = 37 := ⟨by decide +kernel, rfl⟩
theorem d_Mo_isNeighbour_37 : decode m_Mo_isNeighbour.2.1 37 = .ok (.iconst 1, 1) ∧ 37 + 1 = 38 := ⟨by decide +kernel, rfl⟩
theorem d_Mo_isNeighbour_38 : decode m_Mo_isNeighbour.2.1 38 = .ok (.if_icmp .ne 7, 3) ∧ 38 + 3 = 41 ∧ (((38 : Nat) : Int) + (7) = ((45 : Nat) : Int)) := ⟨by decide +kernel, rfl, by decide⟩
theorem d_Mo_isNeighbour_41 : decode m_Mo_isNeighbour.2.1 41 = .ok (.iconst 1, 1) ∧ 41 + 1 = 42 := ⟨by decide +kernel, rfl⟩
theorem d_Mo_isNeighbour_42 : decode m_Mo_isNeighbour.2.1 42 = .ok (.goto 4, 3) ∧ (((42 : Nat) : Int) + (4) = ((46 : Nat) : Int)) := ⟨by decide +kernel, by decide⟩
theorem d_Mo_isNeighbour_45 : decode m_Mo_isNeighbour.2.1 45 = .ok (.iconst 0, 1) ∧ 45 + 1 = 46 := ⟨by decide +kernel, rfl⟩
theorem d_Mo_isNeighbour_46 : decode m_Mo_isNeighbour.2.1 46 = .ok (.istore 5, 2) ∧ 46 + 2 = 48 := ⟨by decide +kernel, rfl⟩
theorem d_Mo_isNeighbour_48 : decode m_Mo_isNeighbour.2.1 48 = .ok (.iload 5, 2) ∧ 48 + 2 = 50 := ⟨by decide +kernel, rfl⟩
theorem d_Mo_isNeighbour_50 : decode m_Mo_isNeighbour.2.1 50 = .ok (.ifCond .eq 40, 3) ∧ 50 + 3 = 53 ∧ (((50 : Nat) : Int) + (40) = ((90 : Nat) : Int)) := ⟨by decide +kernel, rfl, by decide⟩
theorem d_Mo_isNeighbour_53 : decode m_Mo_isNeighbour.2.1 53 = .ok (.iload_n 1, 1) ∧ 53 + 1 = 54 := ⟨by decide +kernel, rfl⟩
theorem d_Mo_isNeighbour_54 : decode m_Mo_isNeighbour.2.1 54 = .ok (.iconst 2, 1) ∧ 54 + 1 = 55 := ⟨by decide +kernel, rfl⟩
theorem d_Mo_isNeighbour_55 : decode m_Mo_isNeighbour.2.1 55 = .ok (.irem, 1) ∧ 55 + 1 = 56 := ⟨by decide +kernel, rfl⟩
theorem d_Mo_isNeighbour_56 : decode m_Mo_isNeighbour.2.1 56 = .ok (.ifCond .ne 18, 3) ∧ 56 + 3 = 59 ∧ (((56 : Nat) : Int) + (18) = ((74 : Nat) : Int)) := ⟨by decide +kernel, rfl, by decide⟩
theorem d_Mo_isNeighbour_59 : decode m_Mo_isNeighbour.2.1 59 = .ok (.aload_n 0, 1) ∧ 59 + 1 = 60 := ⟨by decide +kernel, rfl⟩
theorem d_Mo_isNeighbour_60 : decode m_Mo_isNeighbour.2.1 60 = .ok (.iload_n 1, 1) ∧ 60 + 1 = 61 := ⟨by decide +kernel, rfl⟩
theorem d_Mo_isNeighbour_61 : decode m_Mo_isNeighbour.2.1 61 = .ok (.iload_n 2, 1) ∧ 61 + 1 = 62 := ⟨by decide +kernel, rfl⟩
theorem d_Mo_isNeighbour_62 : decode m_Mo_isNeighbour.2.1 62 = .ok (.iload_n 3, 1) ∧ 62 + 1 = 63 := ⟨by decide +kernel, rfl⟩
theorem d_Mo_isNeighbour_63 : decode m_Mo_isNeighbour.2.1 63 = .ok (.iload 4, 2) ∧ 63 + 2 = 65 := ⟨by decide +kernel, rfl⟩
theorem d_Mo_isNeighbour_65 : decode m_Mo_isNeighbour.2.1 65 = .ok (.invokevirtual 236, 3) ∧ 65 + 3 = 68 := ⟨by decide +kernel, rfl⟩
theorem d_Mo_isNeighbour_68 : decode m_Mo_isNeighbour.2.1 68 = .ok (.ifCond .eq 22, 3) ∧ 68 + 3 = 71 ∧ (((68 : Nat) : Int) + (22) = ((90 : Nat) : Int)) := ⟨by decide +kernel, rfl, by decide⟩
theorem d_Mo_isNeighbour_71 : decode m_Mo_isNeighbour.2.1 71 = .ok (.goto 15, 3) ∧ (((71 : Nat) : Int) + (15) = ((86 : Nat) : Int)) := ⟨by decide +kernel, by decide⟩
theorem d_Mo_isNeighbour_74 : decode m_Mo_isNeighbour.2.1 74 = .ok (.aload_n 0, 1) ∧ 74 + 1 = 75 := ⟨by decide +kernel, rfl⟩
theorem d_Mo_isNeighbour_75 : decode m_Mo_isNeighbour.2.1 75 = .ok (.iload_n 3, 1) ∧ 75 + 1 = 76 := ⟨by decide +kernel, rfl⟩
theorem d_Mo_isNeighbour_76 : decode m_Mo_isNeighbour.2.1 76 = .ok (.iload 4, 2) ∧ 76 + 2 = 78 := ⟨by decide +kernel, rfl⟩
theorem d_Mo_isNeighbour_78 : decode m_Mo_isNeighbour.2.1 78 = .ok (.iload_n 1, 1) ∧ 78 + 1 = 79 := ⟨by decide +kernel, rfl⟩
theorem d_Mo_isNeighbour_79 : decode m_Mo_isNeighbour.2.1 79 = .ok (.iload_n 2, 1) ∧ 79 + 1 = 80 := ⟨by decide +kernel, rfl⟩
theorem d_Mo_isNeighbour_80 : decode m_Mo_isNeighbour.2.1 80 = .ok (.invokevirtual 236, 3) ∧ 80 + 3 = 83 := ⟨by decide +kernel, rfl⟩
theorem d_Mo_isNeighbour_83 : decode m_Mo_isNeighbour.2.1 83 = .ok (.ifCond .eq 7, 3) ∧ 83 + 3 = 86 ∧ (((83 : Nat) : Int) + (7) = ((90 : Nat) : Int)) := ⟨by decide +kernel, rfl, by decide⟩
theorem d_Mo_isNeighbour_86 : decode m_Mo_isNeighbour.2.1 86 = .ok (.iconst 1, 1) ∧ 86 + 1 = 87 := ⟨by decide +kernel, rfl⟩
theorem d_Mo_isNeighbour_87 : decode m_Mo_isNeighbour.2.1 87 = .ok (.goto 4, 3) ∧ (((87 : Nat) : Int) + (4) = ((91 : Nat) : Int)) := ⟨by decide +kernel, by decide⟩
theorem d_Mo_isNeighbour_90 : decode m_Mo_isNeighbour.2.1 90 = .ok (.iconst 0, 1) ∧ 90 + 1 = 91 := ⟨by decide +kernel, rfl⟩
theorem d_Mo_isNeighbour_91 : decode m_Mo_isNeighbour.2.1 91 = .ok (.ireturn, 1) := by decide +kernel
theorem d_Mo_neighbours_0 : decode m_Mo_neighbours.2.1 0 = .ok (.aload_n 0, 1) ∧ 0 + 1 = 1 := ⟨by decide +kernel, rfl⟩
theorem d_Mo_neighbours_1 : decode m_Mo_neighbours.2.1 1 = .ok (.iload_n 1, 1) ∧ 1 + 1 = 2 := ⟨by decide +kernel, rfl⟩
theorem d_Mo_neighbours_2 : decode m_Mo_neighbours.2.1 2 = .ok (.iload_n 2, 1) ∧ 2 + 1 = 3 := ⟨by decide +kernel, rfl⟩
theorem d_Mo_neighbours_3 : decode m_Mo_neighbours.2.1 3 = .ok (.invokevirtual 223, 3) ∧ 3 + 3 = 6 := ⟨by decide +kernel, rfl⟩
theorem d_Mo_neighbours_6 : decode m_Mo_neighbours.2.1 6 = .ok (.ifCond .ne 6, 3) ∧ 6 + 3 = 9 ∧ (((6 : Nat) : Int) + (6) = ((12 : Nat) : Int)) := ⟨by decide +kernel, rfl, by decide⟩
theorem d_Mo_neighbours_9 : decode m_Mo_neighbours.2.1 9 = .ok (.bipush (-101), 2) ∧ 9 + 2 = 11 ∧ (Int8.ofInt (-101)).toInt32 = Int32.ofInt (-101) := ⟨by decide +kernel, rfl, by decide +kernel⟩
theorem d_Mo_neighbours_11 : decode m_Mo_neighbours.2.1 11 = .ok (.ireturn, 1) := by decide +kernel
theorem d_Mo_neighbours_12 : decode m_Mo_neighbours.2.1 12 = .ok (.iconst 0, 1) ∧ 12 + 1 = 13 := ⟨by decide +kernel, rfl⟩
theorem d_Mo_neighbours_13 : decode m_Mo_neighbours.2.1 13 = .ok (.istore_n 3, 1) ∧ 13 + 1 = 14 := ⟨by decide +kernel, rfl⟩
theorem d_Mo_neighbours_14 : decode m_Mo_neighbours.2.1 14 = .ok (.iload_n 1, 1) ∧ 14 + 1 = 15 := ⟨by decide +kernel, rfl⟩
theorem d_Mo_neighbours_15 : decode m_Mo_neighbours.2.1 15 = .ok (.ifCond .le 9, 3) ∧ 15 + 3 = 18 ∧ (((15 : Nat) : Int) + (9) = ((24 : Nat) : Int)) := ⟨by decide +kernel, rfl, by decide⟩
theorem d_Mo_neighbours_18 : decode m_Mo_neighbours.2.1 18 = .ok (.iload_n 1, 1) ∧ 18 + 1 = 19 := ⟨by decide +kernel, rfl⟩
theorem d_Mo_neighbours_19 : decode m_Mo_neighbours.2.1 19 = .ok (.iconst 1, 1) ∧ 19 + 1 = 20 := ⟨by decide +kernel, rfl⟩
theorem d_Mo_neighbours_20 : decode m_Mo_neighbours.2.1 20 = .ok (.isub, 1) ∧ 20 + 1 = 21 := ⟨by decide +kernel, rfl⟩
theorem d_Mo_neighbours_21 : decode m_Mo_neighbours.2.1 21 = .ok (.goto 4, 3) ∧ (((21 : Nat) : Int) + (4) = ((25 : Nat) : Int)) := ⟨by decide +kernel, by decide⟩
theorem d_Mo_neighbours_24 : decode m_Mo_neighbours.2.1 24 = .ok (.iconst 0, 1) ∧ 24 + 1 = 25 := ⟨by decide +kernel, rfl⟩
theorem d_Mo_neighbours_25 : decode m_Mo_neighbours.2.1 25 = .ok (.istore 4, 2) ∧ 25 + 2 = 27 := ⟨by decide +kernel, rfl⟩
theorem d_Mo_neighbours_27 : decode m_Mo_neighbours.2.1 27 = .ok (.iload 4, 2) ∧ 27 + 2 = 29 := ⟨by decide +kernel, rfl⟩
theorem d_Mo_neighbours_29 : decode m_Mo_neighbours.2.1 29 = .ok (.aload_n 0, 1) ∧ 29 + 1 = 30 := ⟨by decide +kernel, rfl⟩
theorem d_Mo_neighbours_30 : decode m_Mo_neighbours.2.1 30 = .ok (.getfield 184, 3) ∧ 30 + 3 = 33 := ⟨by decide +kernel, rfl⟩
theorem d_Mo_neighbours_33 : decode m_Mo_neighbours.2.1 33 = .ok (.if_icmp .ge 58, 3) ∧ 33 + 3 = 36 ∧ (((33 : Nat) : Int) + (58) = ((91 : Nat) : Int)) := ⟨by decide +kernel, rfl, by decide⟩
theorem d_Mo_neighbours_36 : decode m_Mo_neighbours.2.1 36 = .ok (.iload 4, 2) ∧ 36 + 2 = 38 := ⟨by decide +kernel, rfl⟩
theorem d_Mo_neighbours_38 : decode m_Mo_neighbours.2.1 38 = .ok (.iload_n 1, 1) ∧ 38 + 1 = 39 := ⟨by decide +kernel, rfl⟩
theorem d_Mo_neighbours_39 : decode m_Mo_neighbours.2.1 39 = .ok (.iconst 1, 1) ∧ 39 + 1 = 40 := ⟨by decide +kernel, rfl⟩
theorem d_Mo_neighbours_40 : decode m_Mo_neighbours.2.1 40 = .ok (.iadd, 1) ∧ 40 + 1 = 41 := ⟨by decide +kernel, rfl⟩
theorem d_Mo_neighbours_41 : decode m_Mo_neighbours.2.1 41 = .ok (.if_icmp .gt 50, 3) ∧ 41 + 3 = 44 ∧ (((41 : Nat) : Int) + (50) = ((91 : Nat) : Int)) := ⟨by decide +kernel, rfl, by decide⟩
theorem d_Mo_neighbours_44 : decode m_Mo_neighbours.2.1 44 = .ok (.iconst 0, 1) ∧ 44 + 1 = 45 := ⟨by decide +kernel, rfl⟩
theorem d_Mo_neighbours_45 : decode m_Mo_neighbours.2.1 45 = .ok (.istore 5, 2) ∧ 45 + 2 = 47 := ⟨by decide +kernel, rfl⟩
theorem d_Mo_neighbours_47 : decode m_Mo_neighbours.2.1 47 = .ok (.iload 5, 2) ∧ 47 + 2 = 49 := ⟨by decide +kernel, rfl⟩
theorem d_Mo_neighbours_49 : decode m_Mo_neighbours.2.1 49 = .ok (.aload_n 0, 1) ∧ 49 + 1 = 50 := ⟨by decide +kernel, rfl⟩
theorem d_Mo_neighbours_50 : decode m_Mo_neighbours.2.1 50 = .ok (.iload 4, 2) ∧ 50 + 2 = 52 := ⟨by decide +kernel, rfl⟩
theorem d_Mo_neighbours_52 : decode m_Mo_neighbours.2.1 52 = .ok (.invokevirtual 210, 3) ∧ 52 + 3 = 55 := ⟨by decide +kernel, rfl⟩
theorem d_Mo_neighbours_55 : decode m_Mo_neighbours.2.1 55 = .ok (.if_icmp .ge 30, 3) ∧ 55 + 3 = 58 ∧ (((55 : Nat) : Int) + (30) = ((85 : Nat) : Int)) := ⟨by decide +kernel, rfl, by decide⟩
theorem d_Mo_neighbours_58 : decode m_Mo_neighbours.2.1 58 = .ok (.iload_n 3, 1) ∧ 58 + 1 = 59 := ⟨by decide +kernel, rfl⟩
theorem d_Mo_neighbours_59 : decode m_Mo_neighbours.2.1 59 = .ok (.aload_n 0, 1) ∧ 59 + 1 = 60 := ⟨by decide +kernel, rfl⟩
theorem d_Mo_neighbours_60 : decode m_Mo_neighbours.2.1 60 = .ok (.iload_n 1, 1) ∧ 60 + 1 = 61 := ⟨by decide +kernel, rfl⟩
theorem d_Mo_neighbours_61 : decode m_Mo_neighbours.2.1 61 = .ok (.iload_n 2, 1) ∧ 61 + 1 = 62 := ⟨by decide +kernel, rfl⟩
theorem d_Mo_neighbours_62 : decode m_Mo_neighbours.2.1 62 = .ok (.iload 4, 2) ∧ 62 + 2 = 64 := ⟨by decide +kernel, rfl⟩
theorem d_Mo_neighbours_64 : decode m_Mo_neighbours.2.1 64 = .ok (.iload 5, 2) ∧ 64 + 2 = 66 := ⟨by decide +kernel, rfl⟩
theorem d_Mo_neighbours_66 : decode m_Mo_neighbours.2.1 66 = .ok (.invokevirtual 240, 3) ∧ 66 + 3 = 69 := ⟨by decide +kernel, rfl⟩
theorem d_Mo_neighbours_69 : decode m_Mo_neighbours.2.1 69 = .ok (.ifCond .eq 7, 3) ∧ 69 + 3 = 72 ∧ (((69 : Nat) : Int) + (7) = ((76 : Nat) : Int)) := ⟨by decide +kernel, rfl, by decide⟩
theorem d_Mo_neighbours_72 : decode m_Mo_neighbours.2.1 72 = .ok (.iconst 1, 1) ∧ 72 + 1 = 73 := ⟨by decide +kernel, rfl⟩
theorem d_Mo_neighbours_73 : decode m_Mo_neighbours.2.1 73 = .ok (.goto 4, 3) ∧ (((73 : Nat) : Int) + (4) = ((77 : Nat) : Int)) := ⟨by decide +kernel, by decide⟩
theorem d_Mo_neighbours_76 : decode m_Mo_neighbours.2.1 76 = .ok (.iconst 0, 1) ∧ 76 + 1 = 77 := ⟨by decide +kernel, rfl⟩
theorem d_Mo_neighbours_77 : decode m_Mo_neighbours.2.1 77 = .ok (.iadd, 1) ∧ 77 + 1 = 78 := ⟨by decide +kernel, rfl⟩
theorem d_Mo_neighbours_78 : decode m_Mo_neighbours.2.1 78 = .ok (.istore_n 3, 1) ∧ 78 + 1 = 79 := ⟨by decide +kernel, rfl⟩
theorem d_Mo_neighbours_79 : decode m_Mo_neighbours.2.1 79 = .ok (.iinc 5 1, 3) ∧ 79 + 3 = 82 := ⟨by decide +kernel, rfl⟩
theorem d_Mo_neighbours_82 : decode m_Mo_neighbours.2.1 82 = .ok (.goto (-35), 3) ∧ (((82 : Nat) : Int) + (-35) = ((47 : Nat) : Int)) := ⟨by decide +kernel, by decide⟩
theorem d_Mo_neighbours_85 : decode m_Mo_neighbours.2.1 85 = .ok (.iinc 4 1, 3) ∧ 85 + 3 = 88 := ⟨by decide +kernel, rfl⟩
theorem d_Mo_neighbours_88 : decode m_Mo_neighbours.2.1 88 = .ok (.goto (-61), 3) ∧ (((88 : Nat) : Int) + (-61) = ((27 : Nat) : Int)) := ⟨by decide +kernel, by decide⟩
theorem d_Mo_neighbours_91 : decode m_Mo_neighbours.2.1 91 = .ok (.iload_n 3, 1) ∧ 91 + 1 = 92 := ⟨by decide +kernel, rfl⟩
theorem d_Mo_neighbours_92 : decode m_Mo_neighbours.2.1 92 = .ok (.ireturn, 1) := by decide +kernel
theorem d_Mo_isForm_0 : decode m_Mo_isForm.2.1 0 = .ok (.iload_n 0, 1) ∧ 0 + 1 = 1 := ⟨by decide +kernel, rfl⟩
theorem d_Mo_isForm_1 : decode m_Mo_isForm.2.1 1 = .ok (.istore_n 1, 1) ∧ 1 + 1 = 2 := ⟨by decide +kernel, rfl⟩
theorem d_Mo_isForm_2 : decode m_Mo_isForm.2.1 2 = .ok (.iload_n 0, 1) ∧ 2 + 1 = 3 := ⟨by decide +kernel, rfl⟩
theorem d_Mo_isForm_3 : decode m_Mo_isForm.2.1 3 = .ok (.i2l, 1) ∧ 3 + 1 = 4 := ⟨by decide +kernel, rfl⟩
theorem d_Mo_isForm_4 : decode m_Mo_isForm.2.1 4 = .ok (.lconst 0, 1) ∧ 4 + 1 = 5 := ⟨by decide +kernel, rfl⟩
theorem d_Mo_isForm_5 : decode m_Mo_isForm.2.1 5 = .ok (.ldc2_w 243, 3) ∧ 5 + 3 = 8 := ⟨by decide +kernel, rfl⟩
theorem d_Mo_isForm_8 : decode m_Mo_isForm.2.1 8 = .ok (.invokestatic 80, 3) ∧ 8 + 3 = 11 := ⟨by decide +kernel, rfl⟩
theorem d_Mo_isForm_11 : decode m_Mo_isForm.2.1 11 = .ok (.istore_n 2, 1) ∧ 11 + 1 = 12 := ⟨by decide +kernel, rfl⟩
theorem d_Mo_isForm_12 : decode m_Mo_isForm.2.1 12 = .ok (.iload_n 2, 1) ∧ 12 + 1 = 13 := ⟨by decide +kernel, rfl⟩
theorem d_Mo_isForm_13 : decode m_Mo_isForm.2.1 13 = .ok (.ifCond .eq 30, 3) ∧ 13 + 3 = 16 ∧ (((13 : Nat) : Int) + (30) = ((43 : Nat) : Int)) := ⟨by decide +kernel, rfl, by decide⟩
theorem d_Mo_isForm_16 : decode m_Mo_isForm.2.1 16 = .ok (.iload_n 1, 1) ∧ 16 + 1 = 17 := ⟨by decide +kernel, rfl⟩
theorem d_Mo_isForm_17 : decode m_Mo_isForm.2.1 17 = .ok (.ifCond .le 26, 3) ∧ 17 + 3 = 20 ∧ (((17 : Nat) : Int) + (26) = ((43 : Nat) : Int)) := ⟨by decide +kernel, rfl, by decide⟩
theorem d_Mo_isForm_20 : decode m_Mo_isForm.2.1 20 = .ok (.iload_n 1, 1) ∧ 20 + 1 = 21 := ⟨by decide +kernel, rfl⟩
theorem d_Mo_isForm_21 : decode m_Mo_isForm.2.1 21 = .ok (.bipush 10, 2) ∧ 21 + 2 = 23 ∧ (Int8.ofInt 10).toInt32 = Int32.ofInt 10 := ⟨by decide +kernel, rfl, by decide +kernel⟩
theorem d_Mo_isForm_23 : decode m_Mo_isForm.2.1 23 = .ok (.irem, 1) ∧ 23 + 1 = 24 := ⟨by decide +kernel, rfl⟩
theorem d_Mo_isForm_24 : decode m_Mo_isForm.2.1 24 = .ok (.bipush 7, 2) ∧ 24 + 2 = 26 ∧ (Int8.ofInt 7).toInt32 = Int32.ofInt 7 := ⟨by decide +kernel, rfl, by decide +kernel⟩
theorem d_Mo_isForm_26 : decode m_Mo_isForm.2.1 26 = .ok (.if_icmp .ge 7, 3) ∧ 26 + 3 = 29 ∧ (((26 : Nat) : Int) + (7) = ((33 : Nat) : Int)) := ⟨by decide +kernel, rfl, by decide⟩
theorem d_Mo_isForm_29 : decode m_Mo_isForm.2.1 29 = .ok (.iconst 1, 1) ∧ 29 + 1 = 30 := ⟨by decide +kernel, rfl⟩
theorem d_Mo_isForm_30 : decode m_Mo_isForm.2.1 30 = .ok (.goto 4, 3) ∧ (((30 : Nat) : Int) + (4) = ((34 : Nat) : Int)) := ⟨by decide +kernel, by decide⟩
theorem d_Mo_isForm_33 : decode m_Mo_isForm.2.1 33 = .ok (.iconst 0, 1) ∧ 33 + 1 = 34 := ⟨by decide +kernel, rfl⟩
theorem d_Mo_isForm_34 : decode m_Mo_isForm.2.1 34 = .ok (.istore_n 2, 1) ∧ 34 + 1 = 35 := ⟨by decide +kernel, rfl⟩
theorem d_Mo_isForm_35 : decode m_Mo_isForm.2.1 35 = .ok (.iload_n 1, 1) ∧ 35 + 1 = 36 := ⟨by decide +kernel, rfl⟩
theorem d_Mo_isForm_36 : decode m_Mo_isForm.2.1 36 = .ok (.bipush 10, 2) ∧ 36 + 2 = 38 ∧ (Int8.ofInt 10).toInt32 = Int32.ofInt 10 := ⟨by decide +kernel, rfl, by decide +kernel⟩
theorem d_Mo_isForm_38 : decode m_Mo_isForm.2.1 38 = .ok (.idiv, 1) ∧ 38 + 1 = 39 := ⟨by decide +kernel, rfl⟩
theorem d_Mo_isForm_39 : decode m_Mo_isForm.2.1 39 = .ok (.istore_n 1, 1) ∧ 39 + 1 = 40 := ⟨by decide +kernel, rfl⟩
theorem d_Mo_isForm_40 : decode m_Mo_isForm.2.1 40 = .ok (.goto (-28), 3) ∧ (((40 : Nat) : Int) + (-28) = ((12 : Nat) : Int)) := ⟨by decide +kernel, by decide⟩
theorem d_Mo_isForm_43 : decode m_Mo_isForm.2.1 43 = .ok (.iload_n 2, 1) ∧ 43 + 1 = 44 := ⟨by decide +kernel, rfl⟩
theorem d_Mo_isForm_44 : decode m_Mo_isForm.2.1 44 = .ok (.ireturn, 1) := by decide +kernel
theorem d_Mo_figureOf_0 : decode m_Mo_figureOf.2.1 0 = .ok (.iload_n 0, 1) ∧ 0 + 1 = 1 := ⟨by decide +kernel, rfl⟩
theorem d_Mo_figureOf_1 : decode m_Mo_figureOf.2.1 1 = .ok (.istore_n 2, 1) ∧ 1 + 1 = 2 := ⟨by decide +kernel, rfl⟩
theorem d_Mo_figureOf_2 : decode m_Mo_figureOf.2.1 2 = .ok (.iload_n 1, 1) ∧ 2 + 1 = 3 := ⟨by decide +kernel, rfl⟩
theorem d_Mo_figureOf_3 : decode m_Mo_figureOf.2.1 3 = .ok (.istore_n 3, 1) ∧ 3 + 1 = 4 := ⟨by decide +kernel, rfl⟩
theorem d_Mo_figureOf_4 : decode m_Mo_figureOf.2.1 4 = .ok (.iload_n 3, 1) ∧ 4 + 1 = 5 := ⟨by decide +kernel, rfl⟩
theorem d_Mo_figureOf_5 : decode m_Mo_figureOf.2.1 5 = .ok (.iconst 3, 1) ∧ 5 + 1 = 6 := ⟨by decide +kernel, rfl⟩
theorem d_Mo_figureOf_6 : decode m_Mo_figureOf.2.1 6 = .ok (.if_icmp .ge 14, 3) ∧ 6 + 3 = 9 ∧ (((6 : Nat) : Int) + (14) = ((20 : Nat) : Int)) := ⟨by decide +kernel, rfl, by decide⟩
theorem d_Mo_figureOf_9 : decode m_Mo_figureOf.2.1 9 = .ok (.iload_n 2, 1) ∧ 9 + 1 = 10 := ⟨by decide +kernel, rfl⟩
theorem d_Mo_figureOf_10 : decode m_Mo_figureOf.2.1 10 = .ok (.bipush 10, 2) ∧ 10 + 2 = 12 ∧ (Int8.ofInt 10).toInt32 = Int32.ofInt 10 := ⟨by decide +kernel, rfl, by decide +kernel⟩
theorem d_Mo_figureOf_12 : decode m_Mo_figureOf.2.1 12 = .ok (.idiv, 1) ∧ 12 + 1 = 13 := ⟨by decide +kernel, rfl⟩
theorem d_Mo_figureOf_13 : decode m_Mo_figureOf.2.1 13 = .ok (.istore_n 2, 1) ∧ 13 + 1 = 14 := ⟨by decide +kernel, rfl⟩
theorem d_Mo_figureOf_14 : decode m_Mo_figureOf.2.1 14 = .ok (.iinc 3 1, 3) ∧ 14 + 3 = 17 := ⟨by decide +kernel, rfl⟩
theorem d_Mo_figureOf_17 : decode m_Mo_figureOf.2.1 17 = .ok (.goto (-13), 3) ∧ (((17 : Nat) : Int) + (-13) = ((4 : Nat) : Int)) := ⟨by decide +kernel, by decide⟩
theorem d_Mo_figureOf_20 : decode m_Mo_figureOf.2.1 20 = .ok (.iload_n 2, 1) ∧ 20 + 1 = 21 := ⟨by decide +kernel, rfl⟩
theorem d_Mo_figureOf_21 : decode m_Mo_figureOf.2.1 21 = .ok (.bipush 10, 2) ∧ 21 + 2 = 23 ∧ (Int8.ofInt 10).toInt32 = Int32.ofInt 10 := ⟨by decide +kernel, rfl, by decide +kernel⟩
theorem d_Mo_figureOf_23 : decode m_Mo_figureOf.2.1 23 = .ok (.irem, 1) ∧ 23 + 1 = 24 := ⟨by decide +kernel, rfl⟩
theorem d_Mo_figureOf_24 : decode m_Mo_figureOf.2.1 24 = .ok (.ireturn, 1) := by decide +kernel
theorem d_Mo_isSo_0 : decode m_Mo_isSo.2.1 0 = .ok (.iload_n 0, 1) ∧ 0 + 1 = 1 := ⟨by decide +kernel, rfl⟩
theorem d_Mo_isSo_1 : decode m_Mo_isSo.2.1 1 = .ok (.tableswitch 46 0 3 #[31, 33, 33, 33], 31) := by decide +kernel
theorem d_Mo_isSo_32 : decode m_Mo_isSo.2.1 32 = .ok (.iconst 1, 1) ∧ 32 + 1 = 33 := ⟨by decide +kernel, rfl⟩
theorem d_Mo_isSo_33 : decode m_Mo_isSo.2.1 33 = .ok (.ireturn, 1) := by decide +kernel
theorem d_Mo_isSo_34 : decode m_Mo_isSo.2.1 34 = .ok (.iload_n 1, 1) ∧ 34 + 1 = 35 := ⟨by decide +kernel, rfl⟩
theorem d_Mo_isSo_35 : decode m_Mo_isSo.2.1 35 = .ok (.iload_n 0, 1) ∧ 35 + 1 = 36 := ⟨by decide +kernel, rfl⟩
theorem d_Mo_isSo_36 : decode m_Mo_isSo.2.1 36 = .ok (.iconst 1, 1) ∧ 36 + 1 = 37 := ⟨by decide +kernel, rfl⟩
theorem d_Mo_isSo_37 : decode m_Mo_isSo.2.1 37 = .ok (.isub, 1) ∧ 37 + 1 = 38 := ⟨by decide +kernel, rfl⟩
theorem d_Mo_isSo_38 : decode m_Mo_isSo.2.1 38 = .ok (.if_icmp .ne 7, 3) ∧ 38 + 3 = 41 ∧ (((38 : Nat) : Int) + (7) = ((45 : Nat) : Int)) := ⟨by decide +kernel, rfl, by decide⟩
theorem d_Mo_isSo_41 : decode m_Mo_isSo.2.1 41 = .ok (.iconst 1, 1) ∧ 41 + 1 = 42 := ⟨by decide +kernel, rfl⟩
theorem d_Mo_isSo_42 : decode m_Mo_isSo.2.1 42 = .ok (.goto 4, 3) ∧ (((42 : Nat) : Int) + (4) = ((46 : Nat) : Int)) := ⟨by decide +kernel, by decide⟩
theorem d_Mo_isSo_45 : decode m_Mo_isSo.2.1 45 = .ok (.iconst 0, 1) ∧ 45 + 1 = 46 := ⟨by decide +kernel, rfl⟩
theorem d_Mo_isSo_46 : decode m_Mo_isSo.2.1 46 = .ok (.ireturn, 1) := by decide +kernel
theorem d_Mo_isSo_47 : decode m_Mo_isSo.2.1 47 = .ok (.iload_n 1, 1) ∧ 47 + 1 = 48 := ⟨by decide +kernel, rfl⟩
theorem d_Mo_isSo_48 : decode m_Mo_isSo.2.1 48 = .ok (.iload_n 0, 1) ∧ 48 + 1 = 49 := ⟨by decide +kernel, rfl⟩
theorem d_Mo_isSo_49 : decode m_Mo_isSo.2.1 49 = .ok (.iconst 4, 1) ∧ 49 + 1 = 50 := ⟨by decide +kernel, rfl⟩
theorem d_Mo_isSo_50 : decode m_Mo_isSo.2.1 50 = .ok (.if_icmp .ne 7, 3) ∧ 50 + 3 = 53 ∧ (((50 : Nat) : Int) + (7) = ((57 : Nat) : Int)) := ⟨by decide +kernel, rfl, by decide⟩
theorem d_Mo_isSo_53 : decode m_Mo_isSo.2.1 53 = .ok (.iconst 1, 1) ∧ 53 + 1 = 54 := ⟨by decide +kernel, rfl⟩
theorem d_Mo_isSo_54 : decode m_Mo_isSo.2.1 54 = .ok (.goto 13, 3) ∧ (((54 : Nat) : Int) + (13) = ((67 : Nat) : Int)) := ⟨by decide +kernel, by decide⟩
theorem d_Mo_isSo_57 : decode m_Mo_isSo.2.1 57 = .ok (.iload_n 0, 1) ∧ 57 + 1 = 58 := ⟨by decide +kernel, rfl⟩
theorem d_Mo_isSo_58 : decode m_Mo_isSo.2.1 58 = .ok (.iconst 5, 1) ∧ 58 + 1 = 59 := ⟨by decide +kernel, rfl⟩
theorem d_Mo_isSo_59 : decode m_Mo_isSo.2.1 59 = .ok (.if_icmp .ne 7, 3) ∧ 59 + 3 = 62 ∧ (((59 : Nat) : Int) + (7) = ((66 : Nat) : Int)) := ⟨by decide +kernel, rfl, by decide⟩
theorem d_Mo_isSo_62 : decode m_Mo_isSo.2.1 62 = .ok (.iconst 0, 1) ∧ 62 + 1 = 63 := ⟨by decide +kernel, rfl⟩
theorem d_Mo_isSo_63 : decode m_Mo_isSo.2.1 63 = .ok (.goto 4, 3) ∧ (((63 : Nat) : Int) + (4) = ((67 : Nat) : Int)) := ⟨by decide +kernel, by decide⟩
theorem d_Mo_isSo_66 : decode m_Mo_isSo.2.1 66 = .ok (.iconst 2, 1) ∧ 66 + 1 = 67 := ⟨by decide +kernel, rfl⟩
theorem d_Mo_isSo_67 : decode m_Mo_isSo.2.1 67 = .ok (.if_icmp .eq 7, 3) ∧ 67 + 3 = 70 ∧ (((67 : Nat) : Int) + (7) = ((74 : Nat) : Int)) := ⟨by decide +kernel, rfl, by decide⟩
theorem d_Mo_isSo_70 : decode m_Mo_isSo.2.1 70 = .ok (.iconst 1, 1) ∧ 70 + 1 = 71 := ⟨by decide +kernel, rfl⟩
theorem d_Mo_isSo_71 : decode m_Mo_isSo.2.1 71 = .ok (.goto 4, 3) ∧ (((71 : Nat) : Int) + (4) = ((75 : Nat) : Int)) := ⟨by decide +kernel, by decide⟩
theorem d_Mo_isSo_74 : decode m_Mo_isSo.2.1 74 = .ok (.iconst 0, 1) ∧ 74 + 1 = 75 := ⟨by decide +kernel, rfl⟩
theorem d_Mo_isSo_75 : decode m_Mo_isSo.2.1 75 = .ok (.ireturn, 1) := by decide +kernel
theorem d_Mo_holds_0 : decode m_Mo_holds.2.1 0 = .ok (.iconst 1, 1) ∧ 0 + 1 = 1 := ⟨by decide +kernel, rfl⟩
theorem d_Mo_holds_1 : decode m_Mo_holds.2.1 1 = .ok (.istore 5, 2) ∧ 1 + 2 = 3 := ⟨by decide +kernel, rfl⟩
theorem d_Mo_holds_3 : decode m_Mo_holds.2.1 3 = .ok (.iconst 0, 1) ∧ 3 + 1 = 4 := ⟨by decide +kernel, rfl⟩
theorem d_Mo_holds_4 : decode m_Mo_holds.2.1 4 = .ok (.istore 6, 2) ∧ 4 + 2 = 6 := ⟨by decide +kernel, rfl⟩
theorem d_Mo_holds_6 : decode m_Mo_holds.2.1 6 = .ok (.iconst 0, 1) ∧ 6 + 1 = 7 := ⟨by decide +kernel, rfl⟩
theorem d_Mo_holds_7 : decode m_Mo_holds.2.1 7 = .ok (.istore 7, 2) ∧ 7 + 2 = 9 := ⟨by decide +kernel, rfl⟩
theorem d_Mo_holds_9 : decode m_Mo_holds.2.1 9 = .ok (.iload 7, 2) ∧ 9 + 2 = 11 := ⟨by decide +kernel, rfl⟩
theorem d_Mo_holds_11 : decode m_Mo_holds.2.1 11 = .ok (.aload_n 0, 1) ∧ 11 + 1 = 12 := ⟨by decide +kernel, rfl⟩
theorem d_Mo_holds_12 : decode m_Mo_holds.2.1 12 = .ok (.getfield 103, 3) ∧ 12 + 3 = 15 := ⟨by decide +kernel, rfl⟩
theorem d_Mo_holds_15 : decode m_Mo_holds.2.1 15 = .ok (.if_icmp .ge 72, 3) ∧ 15 + 3 = 18 ∧ (((15 : Nat) : Int) + (72) = ((87 : Nat) : Int)) := ⟨by decide +kernel, rfl, by decide⟩
theorem d_Mo_holds_18 : decode m_Mo_holds.2.1 18 = .ok (.iload_n 2, 1) ∧ 18 + 1 = 19 := ⟨by decide +kernel, rfl⟩
theorem d_Mo_holds_19 : decode m_Mo_holds.2.1 19 = .ok (.iload 7, 2) ∧ 19 + 2 = 21 := ⟨by decide +kernel, rfl⟩
theorem d_Mo_holds_21 : decode m_Mo_holds.2.1 21 = .ok (.invokestatic 245, 3) ∧ 21 + 3 = 24 := ⟨by decide +kernel, rfl⟩
theorem d_Mo_holds_24 : decode m_Mo_holds.2.1 24 = .ok (.istore 8, 2) ∧ 24 + 2 = 26 := ⟨by decide +kernel, rfl⟩
theorem d_Mo_holds_26 : decode m_Mo_holds.2.1 26 = .ok (.iload 8, 2) ∧ 26 + 2 = 28 := ⟨by decide +kernel, rfl⟩
theorem d_Mo_holds_28 : decode m_Mo_holds.2.1 28 = .ok (.aload_n 0, 1) ∧ 28 + 1 = 29 := ⟨by decide +kernel, rfl⟩
theorem d_Mo_holds_29 : decode m_Mo_holds.2.1 29 = .ok (.iload_n 3, 1) ∧ 29 + 1 = 30 := ⟨by decide +kernel, rfl⟩
theorem d_Mo_holds_30 : decode m_Mo_holds.2.1 30 = .ok (.iload 4, 2) ∧ 30 + 2 = 32 := ⟨by decide +kernel, rfl⟩
theorem d_Mo_holds_32 : decode m_Mo_holds.2.1 32 = .ok (.iload 7, 2) ∧ 32 + 2 = 34 := ⟨by decide +kernel, rfl⟩
theorem d_Mo_holds_34 : decode m_Mo_holds.2.1 34 = .ok (.invokevirtual 230, 3) ∧ 34 + 3 = 37 := ⟨by decide +kernel, rfl⟩
theorem d_Mo_holds_37 : decode m_Mo_holds.2.1 37 = .ok (.invokestatic 248, 3) ∧ 37 + 3 = 40 := ⟨by decide +kernel, rfl⟩
theorem d_Mo_holds_40 : decode m_Mo_holds.2.1 40 = .ok (.istore 9, 2) ∧ 40 + 2 = 42 := ⟨by decide +kernel, rfl⟩
theorem d_Mo_holds_42 : decode m_Mo_holds.2.1 42 = .ok (.iload 5, 2) ∧ 42 + 2 = 44 := ⟨by decide +kernel, rfl⟩
theorem d_Mo_holds_44 : decode m_Mo_holds.2.1 44 = .ok (.ifCond .eq 12, 3) ∧ 44 + 3 = 47 ∧ (((44 : Nat) : Int) + (12) = ((56 : Nat) : Int)) := ⟨by decide +kernel, rfl, by decide⟩
theorem d_Mo_holds_47 : decode m_Mo_holds.2.1 47 = .ok (.iload 9, 2) ∧ 47 + 2 = 49 := ⟨by decide +kernel, rfl⟩
theorem d_Mo_holds_49 : decode m_Mo_holds.2.1 49 = .ok (.ifCond .eq 7, 3) ∧ 49 + 3 = 52 ∧ (((49 : Nat) : Int) + (7) = ((56 : Nat) : Int)) := ⟨by decide +kernel, rfl, by decide⟩
theorem d_Mo_holds_52 : decode m_Mo_holds.2.1 52 = .ok (.iconst 1, 1) ∧ 52 + 1 = 53 := ⟨by decide +kernel, rfl⟩
theorem d_Mo_holds_53 : decode m_Mo_holds.2.1 53 = .ok (.goto 4, 3) ∧ (((53 : Nat) : Int) + (4) = ((57 : Nat) : Int)) := ⟨by decide +kernel, by decide⟩
theorem d_Mo_holds_56 : decode m_Mo_holds.2.1 56 = .ok (.iconst 0, 1) ∧ 56 + 1 = 57 := ⟨by decide +kernel, rfl⟩
theorem d_Mo_holds_57 : decode m_Mo_holds.2.1 57 = .ok (.istore 5, 2) ∧ 57 + 2 = 59 := ⟨by decide +kernel, rfl⟩
theorem d_Mo_holds_59 : decode m_Mo_holds.2.1 59 = .ok (.iload 6, 2) ∧ 59 + 2 = 61 := ⟨by decide +kernel, rfl⟩
theorem d_Mo_holds_61 : decode m_Mo_holds.2.1 61 = .ok (.ifCond .ne 13, 3) ∧ 61 + 3 = 64 ∧ (((61 : Nat) : Int) + (13) = ((74 : Nat) : Int)) := ⟨by decide +kernel, rfl, by decide⟩
theorem d_Mo_holds_64 : decode m_Mo_holds.2.1 64 = .ok (.iload 8, 2) ∧ 64 + 2 = 66 := ⟨by decide +kernel, rfl⟩
theorem d_Mo_holds_66 : decode m_Mo_holds.2.1 66 = .ok (.ifCond .le 12, 3) ∧ 66 + 3 = 69 ∧ (((66 : Nat) : Int) + (12) = ((78 : Nat) : Int)) := ⟨by decide +kernel, rfl, by decide⟩
theorem d_Mo_holds_69 : decode m_Mo_holds.2.1 69 = .ok (.iload 9, 2) ∧ 69 + 2 = 71 := ⟨by decide +kernel, rfl⟩
theorem d_Mo_holds_71 : decode m_Mo_holds.2.1 71 = .ok (.ifCond .eq 7, 3) ∧ 71 + 3 = 74 ∧ (((71 : Nat) : Int) + (7) = ((78 : Nat) : Int)) := ⟨by decide +kernel, rfl, by decide⟩
theorem d_Mo_holds_74 : decode m_Mo_holds.2.1 74 = .ok (.iconst 1, 1) ∧ 74 + 1 = 75 := ⟨by decide +kernel, rfl⟩
theorem d_Mo_holds_75 : decode m_Mo_holds.2.1 75 = .ok (.goto 4, 3) ∧ (((75 : Nat) : Int) + (4) = ((79 : Nat) : Int)) := ⟨by decide +kernel, by decide⟩
theorem d_Mo_holds_78 : decode m_Mo_holds.2.1 78 = .ok (.iconst 0, 1) ∧ 78 + 1 = 79 := ⟨by decide +kernel, rfl⟩
theorem d_Mo_holds_79 : decode m_Mo_holds.2.1 79 = .ok (.istore 6, 2) ∧ 79 + 2 = 81 := ⟨by decide +kernel, rfl⟩
theorem d_Mo_holds_81 : decode m_Mo_holds.2.1 81 = .ok (.iinc 7 1, 3) ∧ 81 + 3 = 84 := ⟨by decide +kernel, rfl⟩
theorem d_Mo_holds_84 : decode m_Mo_holds.2.1 84 = .ok (.goto (-75), 3) ∧ (((84 : Nat) : Int) + (-75) = ((9 : Nat) : Int)) := ⟨by decide +kernel, by decide⟩
theorem d_Mo_holds_87 : decode m_Mo_holds.2.1 87 = .ok (.iload_n 1, 1) ∧ 87 + 1 = 88 := ⟨by decide +kernel, rfl⟩
theorem d_Mo_holds_88 : decode m_Mo_holds.2.1 88 = .ok (.ifCond .ne 8, 3) ∧ 88 + 3 = 91 ∧ (((88 : Nat) : Int) + (8) = ((96 : Nat) : Int)) := ⟨by decide +kernel, rfl, by decide⟩
theorem d_Mo_holds_91 : decode m_Mo_holds.2.1 91 = .ok (.iload 5, 2) ∧ 91 + 2 = 93 := ⟨by decide +kernel, rfl⟩
theorem d_Mo_holds_93 : decode m_Mo_holds.2.1 93 = .ok (.goto 5, 3) ∧ (((93 : Nat) : Int) + (5) = ((98 : Nat) : Int)) := ⟨by decide +kernel, by decide⟩
theorem d_Mo_holds_96 : decode m_Mo_holds.2.1 96 = .ok (.iload 6, 2) ∧ 96 + 2 = 98 := ⟨by decide +kernel, rfl⟩
theorem d_Mo_holds_98 : decode m_Mo_holds.2.1 98 = .ok (.ireturn, 1) := by decide +kernel
theorem d_Mo_holdsIn_0 : decode m_Mo_holdsIn.2.1 0 = .ok (.iconst 1, 1) ∧ 0 + 1 = 1 := ⟨by decide +kernel, rfl⟩
theorem d_Mo_holdsIn_1 : decode m_Mo_holdsIn.2.1 1 = .ok (.istore 5, 2) ∧ 1 + 2 = 3 := ⟨by decide +kernel, rfl⟩
theorem d_Mo_holdsIn_3 : decode m_Mo_holdsIn.2.1 3 = .ok (.iconst 0, 1) ∧ 3 + 1 = 4 := ⟨by decide +kernel, rfl⟩
theorem d_Mo_holdsIn_4 : decode m_Mo_holdsIn.2.1 4 = .ok (.istore 6, 2) ∧ 4 + 2 = 6 := ⟨by decide +kernel, rfl⟩
theorem d_Mo_holdsIn_6 : decode m_Mo_holdsIn.2.1 6 = .ok (.iconst 0, 1) ∧ 6 + 1 = 7 := ⟨by decide +kernel, rfl⟩
theorem d_Mo_holdsIn_7 : decode m_Mo_holdsIn.2.1 7 = .ok (.istore 7, 2) ∧ 7 + 2 = 9 := ⟨by decide +kernel, rfl⟩
theorem d_Mo_holdsIn_9 : decode m_Mo_holdsIn.2.1 9 = .ok (.iload 7, 2) ∧ 9 + 2 = 11 := ⟨by decide +kernel, rfl⟩
theorem d_Mo_holdsIn_11 : decode m_Mo_holdsIn.2.1 11 = .ok (.aload_n 0, 1) ∧ 11 + 1 = 12 := ⟨by decide +kernel, rfl⟩
theorem d_Mo_holdsIn_12 : decode m_Mo_holdsIn.2.1 12 = .ok (.iload 4, 2) ∧ 12 + 2 = 14 := ⟨by decide +kernel, rfl⟩
theorem d_Mo_holdsIn_14 : decode m_Mo_holdsIn.2.1 14 = .ok (.invokevirtual 210, 3) ∧ 14 + 3 = 17 := ⟨by decide +kernel, rfl⟩
theorem d_Mo_holdsIn_17 : decode m_Mo_holdsIn.2.1 17 = .ok (.if_icmp .ge 55, 3) ∧ 17 + 3 = 20 ∧ (((17 : Nat) : Int) + (55) = ((72 : Nat) : Int)) := ⟨by decide +kernel, rfl, by decide⟩
theorem d_Mo_holdsIn_20 : decode m_Mo_holdsIn.2.1 20 = .ok (.aload_n 0, 1) ∧ 20 + 1 = 21 := ⟨by decide +kernel, rfl⟩
theorem d_Mo_holdsIn_21 : decode m_Mo_holdsIn.2.1 21 = .ok (.iload_n 2, 1) ∧ 21 + 1 = 22 := ⟨by decide +kernel, rfl⟩
theorem d_Mo_holdsIn_22 : decode m_Mo_holdsIn.2.1 22 = .ok (.iload_n 3, 1) ∧ 22 + 1 = 23 := ⟨by decide +kernel, rfl⟩
theorem d_Mo_holdsIn_23 : decode m_Mo_holdsIn.2.1 23 = .ok (.iload 4, 2) ∧ 23 + 2 = 25 := ⟨by decide +kernel, rfl⟩
theorem d_Mo_holdsIn_25 : decode m_Mo_holdsIn.2.1 25 = .ok (.iload 7, 2) ∧ 25 + 2 = 27 := ⟨by decide +kernel, rfl⟩
theorem d_Mo_holdsIn_27 : decode m_Mo_holdsIn.2.1 27 = .ok (.invokevirtual 251, 3) ∧ 27 + 3 = 30 := ⟨by decide +kernel, rfl⟩
theorem d_Mo_holdsIn_30 : decode m_Mo_holdsIn.2.1 30 = .ok (.istore 8, 2) ∧ 30 + 2 = 32 := ⟨by decide +kernel, rfl⟩
theorem d_Mo_holdsIn_32 : decode m_Mo_holdsIn.2.1 32 = .ok (.iload 5, 2) ∧ 32 + 2 = 34 := ⟨by decide +kernel, rfl⟩
theorem d_Mo_holdsIn_34 : decode m_Mo_holdsIn.2.1 34 = .ok (.ifCond .eq 12, 3) ∧ 34 + 3 = 37 ∧ (((34 : Nat) : Int) + (12) = ((46 : Nat) : Int)) := ⟨by decide +kernel, rfl, by decide⟩
theorem d_Mo_holdsIn_37 : decode m_Mo_holdsIn.2.1 37 = .ok (.iload 8, 2) ∧ 37 + 2 = 39 := ⟨by decide +kernel, rfl⟩
theorem d_Mo_holdsIn_39 : decode m_Mo_holdsIn.2.1 39 = .ok (.ifCond .eq 7, 3) ∧ 39 + 3 = 42 ∧ (((39 : Nat) : Int) + (7) = ((46 : Nat) : Int)) := ⟨by decide +kernel, rfl, by decide⟩
theorem d_Mo_holdsIn_42 : decode m_Mo_holdsIn.2.1 42 = .ok (.iconst 1, 1) ∧ 42 + 1 = 43 := ⟨by decide +kernel, rfl⟩
theorem d_Mo_holdsIn_43 : decode m_Mo_holdsIn.2.1 43 = .ok (.goto 4, 3) ∧ (((43 : Nat) : Int) + (4) = ((47 : Nat) : Int)) := ⟨by decide +kernel, by decide⟩
theorem d_Mo_holdsIn_46 : decode m_Mo_holdsIn.2.1 46 = .ok (.iconst 0, 1) ∧ 46 + 1 = 47 := ⟨by decide +kernel, rfl⟩
theorem d_Mo_holdsIn_47 : decode m_Mo_holdsIn.2.1 47 = .ok (.istore 5, 2) ∧ 47 + 2 = 49 := ⟨by decide +kernel, rfl⟩
theorem d_Mo_holdsIn_49 : decode m_Mo_holdsIn.2.1 49 = .ok (.iload 6, 2) ∧ 49 + 2 = 51 := ⟨by decide +kernel, rfl⟩
theorem d_Mo_holdsIn_51 : decode m_Mo_holdsIn.2.1 51 = .ok (.ifCond .ne 8, 3) ∧ 51 + 3 = 54 ∧ (((51 : Nat) : Int) + (8) = ((59 : Nat) : Int)) := ⟨by decide +kernel, rfl, by decide⟩
theorem d_Mo_holdsIn_54 : decode m_Mo_holdsIn.2.1 54 = .ok (.iload 8, 2) ∧ 54 + 2 = 56 := ⟨by decide +kernel, rfl⟩
theorem d_Mo_holdsIn_56 : decode m_Mo_holdsIn.2.1 56 = .ok (.ifCond .eq 7, 3) ∧ 56 + 3 = 59 ∧ (((56 : Nat) : Int) + (7) = ((63 : Nat) : Int)) := ⟨by decide +kernel, rfl, by decide⟩
theorem d_Mo_holdsIn_59 : decode m_Mo_holdsIn.2.1 59 = .ok (.iconst 1, 1) ∧ 59 + 1 = 60 := ⟨by decide +kernel, rfl⟩
theorem d_Mo_holdsIn_60 : decode m_Mo_holdsIn.2.1 60 = .ok (.goto 4, 3) ∧ (((60 : Nat) : Int) + (4) = ((64 : Nat) : Int)) := ⟨by decide +kernel, by decide⟩
theorem d_Mo_holdsIn_63 : decode m_Mo_holdsIn.2.1 63 = .ok (.iconst 0, 1) ∧ 63 + 1 = 64 := ⟨by decide +kernel, rfl⟩
theorem d_Mo_holdsIn_64 : decode m_Mo_holdsIn.2.1 64 = .ok (.istore 6, 2) ∧ 64 + 2 = 66 := ⟨by decide +kernel, rfl⟩
theorem d_Mo_holdsIn_66 : decode m_Mo_holdsIn.2.1 66 = .ok (.iinc 7 1, 3) ∧ 66 + 3 = 69 := ⟨by decide +kernel, rfl⟩
theorem d_Mo_holdsIn_69 : decode m_Mo_holdsIn.2.1 69 = .ok (.goto (-60), 3) ∧ (((69 : Nat) : Int) + (-60) = ((9 : Nat) : Int)) := ⟨by decide +kernel, by decide⟩
theorem d_Mo_holdsIn_72 : decode m_Mo_holdsIn.2.1 72 = .ok (.iload_n 1, 1) ∧ 72 + 1 = 73 := ⟨by decide +kernel, rfl⟩
theorem d_Mo_holdsIn_73 : decode m_Mo_holdsIn.2.1 73 = .ok (.iconst 1, 1) ∧ 73 + 1 = 74 := ⟨by decide +kernel, rfl⟩
theorem d_Mo_holdsIn_74 : decode m_Mo_holdsIn.2.1 74 = .ok (.if_icmp .ne 8, 3) ∧ 74 + 3 = 77 ∧ (((74 : Nat) : Int) + (8) = ((82 : Nat) : Int)) := ⟨by decide +kernel, rfl, by decide⟩
theorem d_Mo_holdsIn_77 : decode m_Mo_holdsIn.2.1 77 = .ok (.iload 5, 2) ∧ 77 + 2 = 79 := ⟨by decide +kernel, rfl⟩
theorem d_Mo_holdsIn_79 : decode m_Mo_holdsIn.2.1 79 = .ok (.goto 5, 3) ∧ (((79 : Nat) : Int) + (5) = ((84 : Nat) : Int)) := ⟨by decide +kernel, by decide⟩
theorem d_Mo_holdsIn_82 : decode m_Mo_holdsIn.2.1 82 = .ok (.iload 6, 2) ∧ 82 + 2 = 84 := ⟨by decide +kernel, rfl⟩
theorem d_Mo_holdsIn_84 : decode m_Mo_holdsIn.2.1 84 = .ok (.ireturn, 1) := by decide +kernel
theorem d_Mo_sentence_0 : decode m_Mo_sentence.2.1 0 = .ok (.iload_n 1, 1) ∧ 0 + 1 = 1 := ⟨by decide +kernel, rfl⟩
theorem d_Mo_sentence_1 : decode m_Mo_sentence.2.1 1 = .ok (.i2l, 1) ∧ 1 + 1 = 2 := ⟨by decide +kernel, rfl⟩
theorem d_Mo_sentence_2 : decode m_Mo_sentence.2.1 2 = .ok (.lconst 0, 1) ∧ 2 + 1 = 3 := ⟨by decide +kernel, rfl⟩
theorem d_Mo_sentence_3 : decode m_Mo_sentence.2.1 3 = .ok (.lconst 1, 1) ∧ 3 + 1 = 4 := ⟨by decide +kernel, rfl⟩
theorem d_Mo_sentence_4 : decode m_Mo_sentence.2.1 4 = .ok (.invokestatic 80, 3) ∧ 4 + 3 = 7 := ⟨by decide +kernel, rfl⟩
theorem d_Mo_sentence_7 : decode m_Mo_sentence.2.1 7 = .ok (.ifCond .eq 31, 3) ∧ 7 + 3 = 10 ∧ (((7 : Nat) : Int) + (31) = ((38 : Nat) : Int)) := ⟨by decide +kernel, rfl, by decide⟩
theorem d_Mo_sentence_10 : decode m_Mo_sentence.2.1 10 = .ok (.iload_n 2, 1) ∧ 10 + 1 = 11 := ⟨by decide +kernel, rfl⟩
theorem d_Mo_sentence_11 : decode m_Mo_sentence.2.1 11 = .ok (.i2l, 1) ∧ 11 + 1 = 12 := ⟨by decide +kernel, rfl⟩
theorem d_Mo_sentence_12 : decode m_Mo_sentence.2.1 12 = .ok (.lconst 0, 1) ∧ 12 + 1 = 13 := ⟨by decide +kernel, rfl⟩
theorem d_Mo_sentence_13 : decode m_Mo_sentence.2.1 13 = .ok (.lconst 1, 1) ∧ 13 + 1 = 14 := ⟨by decide +kernel, rfl⟩
theorem d_Mo_sentence_14 : decode m_Mo_sentence.2.1 14 = .ok (.invokestatic 80, 3) ∧ 14 + 3 = 17 := ⟨by decide +kernel, rfl⟩
theorem d_Mo_sentence_17 : decode m_Mo_sentence.2.1 17 = .ok (.ifCond .eq 21, 3) ∧ 17 + 3 = 20 ∧ (((17 : Nat) : Int) + (21) = ((38 : Nat) : Int)) := ⟨by decide +kernel, rfl, by decide⟩
theorem d_Mo_sentence_20 : decode m_Mo_sentence.2.1 20 = .ok (.iload_n 3, 1) ∧ 20 + 1 = 21 := ⟨by decide +kernel, rfl⟩
theorem d_Mo_sentence_21 : decode m_Mo_sentence.2.1 21 = .ok (.i2l, 1) ∧ 21 + 1 = 22 := ⟨by decide +kernel, rfl⟩
theorem d_Mo_sentence_22 : decode m_Mo_sentence.2.1 22 = .ok (.lconst 0, 1) ∧ 22 + 1 = 23 := ⟨by decide +kernel, rfl⟩
theorem d_Mo_sentence_23 : decode m_Mo_sentence.2.1 23 = .ok (.lconst 1, 1) ∧ 23 + 1 = 24 := ⟨by decide +kernel, rfl⟩
theorem d_Mo_sentence_24 : decode m_Mo_sentence.2.1 24 = .ok (.invokestatic 80, 3) ∧ 24 + 3 = 27 := ⟨by decide +kernel, rfl⟩
theorem d_Mo_sentence_27 : decode m_Mo_sentence.2.1 27 = .ok (.ifCond .eq 11, 3) ∧ 27 + 3 = 30 ∧ (((27 : Nat) : Int) + (11) = ((38 : Nat) : Int)) := ⟨by decide +kernel, rfl, by decide⟩
theorem d_Mo_sentence_30 : decode m_Mo_sentence.2.1 30 = .ok (.iload 4, 2) ∧ 30 + 2 = 32 := ⟨by decide +kernel, rfl⟩
theorem d_Mo_sentence_32 : decode m_Mo_sentence.2.1 32 = .ok (.invokestatic 254, 3) ∧ 32 + 3 = 35 := ⟨by decide +kernel, rfl⟩
theorem d_Mo_sentence_35 : decode m_Mo_sentence.2.1 35 = .ok (.ifCond .ne 6, 3) ∧ 35 + 3 = 38 ∧ (((35 : Nat) : Int) + (6) = ((41 : Nat) : Int)) := ⟨by decide +kernel, rfl, by decide⟩
theorem d_Mo_sentence_38 : decode m_Mo_sentence.2.1 38 = .ok (.bipush (-102), 2) ∧ 38 + 2 = 40 ∧ (Int8.ofInt (-102)).toInt32 = Int32.ofInt (-102) := ⟨by decide +kernel, rfl, by decide +kernel⟩
theorem d_Mo_sentence_40 : decode m_Mo_sentence.2.1 40 = .ok (.ireturn, 1) := by decide +kernel
theorem d_Mo_sentence_41 : decode m_Mo_sentence.2.1 41 = .ok (.aload_n 0, 1) ∧ 41 + 1 = 42 := ⟨by decide +kernel, rfl⟩
theorem d_Mo_sentence_42 : decode m_Mo_sentence.2.1 42 = .ok (.invokevirtual 213, 3) ∧ 42 + 3 = 45 := ⟨by decide +kernel, rfl⟩
theorem d_Mo_sentence_45 : decode m_Mo_sentence.2.1 45 = .ok (.ifCond .eq 6, 3) ∧ 45 + 3 = 48 ∧ (((45 : Nat) : Int) + (6) = ((51 : Nat) : Int)) := ⟨by decide +kernel, rfl, by decide⟩
theorem d_Mo_sentence_48 : decode m_Mo_sentence.2.1 48 = .ok (.bipush (-103), 2) ∧ 48 + 2 = 50 ∧ (Int8.ofInt (-103)).toInt32 = Int32.ofInt (-103) := ⟨by decide +kernel, rfl, by decide +kernel⟩
theorem d_Mo_sentence_50 : decode m_Mo_sentence.2.1 50 = .ok (.ireturn, 1) := by decide +kernel
theorem d_Mo_sentence_51 : decode m_Mo_sentence.2.1 51 = .ok (.aload_n 0, 1) ∧ 51 + 1 = 52 := ⟨by decide +kernel, rfl⟩
theorem d_Mo_sentence_52 : decode m_Mo_sentence.2.1 52 = .ok (.invokevirtual 217, 3) ∧ 52 + 3 = 55 := ⟨by decide +kernel, rfl⟩
theorem d_Mo_sentence_55 : decode m_Mo_sentence.2.1 55 = .ok (.iconst 1, 1) ∧ 55 + 1 = 56 := ⟨by decide +kernel, rfl⟩
theorem d_Mo_sentence_56 : decode m_Mo_sentence.2.1 56 = .ok (.istore 5, 2) ∧ 56 + 2 = 58 := ⟨by decide +kernel, rfl⟩
theorem d_Mo_sentence_58 : decode m_Mo_sentence.2.1 58 = .ok (.iconst 0, 1) ∧ 58 + 1 = 59 := ⟨by decide +kernel, rfl⟩
theorem d_Mo_sentence_59 : decode m_Mo_sentence.2.1 59 = .ok (.istore 6, 2) ∧ 59 + 2 = 61 := ⟨by decide +kernel, rfl⟩
theorem d_Mo_sentence_61 : decode m_Mo_sentence.2.1 61 = .ok (.iconst 0, 1) ∧ 61 + 1 = 62 := ⟨by decide +kernel, rfl⟩
theorem d_Mo_sentence_62 : decode m_Mo_sentence.2.1 62 = .ok (.istore 7, 2) ∧ 62 + 2 = 64 := ⟨by decide +kernel, rfl⟩
theorem d_Mo_sentence_64 : decode m_Mo_sentence.2.1 64 = .ok (.iload 7, 2) ∧ 64 + 2 = 66 := ⟨by decide +kernel, rfl⟩
theorem d_Mo_sentence_66 : decode m_Mo_sentence.2.1 66 = .ok (.aload_n 0, 1) ∧ 66 + 1 = 67 := ⟨by decide +kernel, rfl⟩
theorem d_Mo_sentence_67 : decode m_Mo_sentence.2.1 67 = .ok (.getfield 184, 3) ∧ 67 + 3 = 70 := ⟨by decide +kernel, rfl⟩
theorem d_Mo_sentence_70 : decode m_Mo_sentence.2.1 70 = .ok (.if_icmp .ge 55, 3) ∧ 70 + 3 = 73 ∧ (((70 : Nat) : Int) + (55) = ((125 : Nat) : Int)) := ⟨by decide +kernel, rfl, by decide⟩
theorem d_Mo_sentence_73 : decode m_Mo_sentence.2.1 73 = .ok (.aload_n 0, 1) ∧ 73 + 1 = 74 := ⟨by decide +kernel, rfl⟩
theorem d_Mo_sentence_74 : decode m_Mo_sentence.2.1 74 = .ok (.iload_n 2, 1) ∧ 74 + 1 = 75 := ⟨by decide +kernel, rfl⟩
theorem d_Mo_sentence_75 : decode m_Mo_sentence.2.1 75 = .ok (.iload_n 3, 1) ∧ 75 + 1 = 76 := ⟨by decide +kernel, rfl⟩
theorem d_Mo_sentence_76 : decode m_Mo_sentence.2.1 76 = .ok (.iload 4, 2) ∧ 76 + 2 = 78 := ⟨by decide +kernel, rfl⟩
theorem d_Mo_sentence_78 : decode m_Mo_sentence.2.1 78 = .ok (.iload 7, 2) ∧ 78 + 2 = 80 := ⟨by decide +kernel, rfl⟩
theorem d_Mo_sentence_80 : decode m_Mo_sentence.2.1 80 = .ok (.invokevirtual 257, 3) ∧ 80 + 3 = 83 := ⟨by decide +kernel, rfl⟩
theorem d_Mo_sentence_83 : decode m_Mo_sentence.2.1 83 = .ok (.istore 8, 2) ∧ 83 + 2 = 85 := ⟨by decide +kernel, rfl⟩
theorem d_Mo_sentence_85 : decode m_Mo_sentence.2.1 85 = .ok (.iload 5, 2) ∧ 85 + 2 = 87 := ⟨by decide +kernel, rfl⟩
theorem d_Mo_sentence_87 : decode m_Mo_sentence.2.1 87 = .ok (.ifCond .eq 12, 3) ∧ 87 + 3 = 90 ∧ (((87 : Nat) : Int) + (12) = ((99 : Nat) : Int)) := ⟨by decide +kernel, rfl, by decide⟩
theorem d_Mo_sentence_90 : decode m_Mo_sentence.2.1 90 = .ok (.iload 8, 2) ∧ 90 + 2 = 92 := ⟨by decide +kernel, rfl⟩
theorem d_Mo_sentence_92 : decode m_Mo_sentence.2.1 92 = .ok (.ifCond .eq 7, 3) ∧ 92 + 3 = 95 ∧ (((92 : Nat) : Int) + (7) = ((99 : Nat) : Int)) := ⟨by decide +kernel, rfl, by decide⟩
theorem d_Mo_sentence_95 : decode m_Mo_sentence.2.1 95 = .ok (.iconst 1, 1) ∧ 95 + 1 = 96 := ⟨by decide +kernel, rfl⟩
theorem d_Mo_sentence_96 : decode m_Mo_sentence.2.1 96 = .ok (.goto 4, 3) ∧ (((96 : Nat) : Int) + (4) = ((100 : Nat) : Int)) := ⟨by decide +kernel, by decide⟩
theorem d_Mo_sentence_99 : decode m_Mo_sentence.2.1 99 = .ok (.iconst 0, 1) ∧ 99 + 1 = 100 := ⟨by decide +kernel, rfl⟩
theorem d_Mo_sentence_100 : decode m_Mo_sentence.2.1 100 = .ok (.istore 5, 2) ∧ 100 + 2 = 102 := ⟨by decide +kernel, rfl⟩
theorem d_Mo_sentence_102 : decode m_Mo_sentence.2.1 102 = .ok (.iload 6, 2) ∧ 102 + 2 = 104 := ⟨by decide +kernel, rfl⟩
theorem d_Mo_sentence_104 : decode m_Mo_sentence.2.1 104 = .ok (.ifCond .ne 8, 3) ∧ 104 + 3 = 107 ∧ (((104 : Nat) : Int) + (8) = ((112 : Nat) : Int)) := ⟨by decide +kernel, rfl, by decide⟩
theorem d_Mo_sentence_107 : decode m_Mo_sentence.2.1 107 = .ok (.iload 8, 2) ∧ 107 + 2 = 109 := ⟨by decide +kernel, rfl⟩
theorem d_Mo_sentence_109 : decode m_Mo_sentence.2.1 109 = .ok (.ifCond .eq 7, 3) ∧ 109 + 3 = 112 ∧ (((109 : Nat) : Int) + (7) = ((116 : Nat) : Int)) := ⟨by decide +kernel, rfl, by decide⟩
theorem d_Mo_sentence_112 : decode m_Mo_sentence.2.1 112 = .ok (.iconst 1, 1) ∧ 112 + 1 = 113 := ⟨by decide +kernel, rfl⟩
theorem d_Mo_sentence_113 : decode m_Mo_sentence.2.1 113 = .ok (.goto 4, 3) ∧ (((113 : Nat) : Int) + (4) = ((117 : Nat) : Int)) := ⟨by decide +kernel, by decide⟩
theorem d_Mo_sentence_116 : decode m_Mo_sentence.2.1 116 = .ok (.iconst 0, 1) ∧ 116 + 1 = 117 := ⟨by decide +kernel, rfl⟩
theorem d_Mo_sentence_117 : decode m_Mo_sentence.2.1 117 = .ok (.istore 6, 2) ∧ 117 + 2 = 119 := ⟨by decide +kernel, rfl⟩
theorem d_Mo_sentence_119 : decode m_Mo_sentence.2.1 119 = .ok (.iinc 7 1, 3) ∧ 119 + 3 = 122 := ⟨by decide +kernel, rfl⟩
theorem d_Mo_sentence_122 : decode m_Mo_sentence.2.1 122 = .ok (.goto (-58), 3) ∧ (((122 : Nat) : Int) + (-58) = ((64 : Nat) : Int)) := ⟨by decide +kernel, by decide⟩
theorem d_Mo_sentence_125 : decode m_Mo_sentence.2.1 125 = .ok (.iload_n 1, 1) ∧ 125 + 1 = 126 := ⟨by decide +kernel, rfl⟩
theorem d_Mo_sentence_126 : decode m_Mo_sentence.2.1 126 = .ok (.iconst 1, 1) ∧ 126 + 1 = 127 := ⟨by decide +kernel, rfl⟩
theorem d_Mo_sentence_127 : decode m_Mo_sentence.2.1 127 = .ok (.if_icmp .ne 11, 3) ∧ 127 + 3 = 130 ∧ (((127 : Nat) : Int) + (11) = ((138 : Nat) : Int)) := ⟨by decide +kernel, rfl, by decide⟩
theorem d_Mo_sentence_130 : decode m_Mo_sentence.2.1 130 = .ok (.iload 5, 2) ∧ 130 + 2 = 132 := ⟨by decide +kernel, rfl⟩
theorem d_Mo_sentence_132 : decode m_Mo_sentence.2.1 132 = .ok (.ifCond .eq 15, 3) ∧ 132 + 3 = 135 ∧ (((132 : Nat) : Int) + (15) = ((147 : Nat) : Int)) := ⟨by decide +kernel, rfl, by decide⟩
theorem d_Mo_sentence_135 : decode m_Mo_sentence.2.1 135 = .ok (.goto 8, 3) ∧ (((135 : Nat) : Int) + (8) = ((143 : Nat) : Int)) := ⟨by decide +kernel, by decide⟩
theorem d_Mo_sentence_138 : decode m_Mo_sentence.2.1 138 = .ok (.iload 6, 2) ∧ 138 + 2 = 140 := ⟨by decide +kernel, rfl⟩
theorem d_Mo_sentence_140 : decode m_Mo_sentence.2.1 140 = .ok (.ifCond .eq 7, 3) ∧ 140 + 3 = 143 ∧ (((140 : Nat) : Int) + (7) = ((147 : Nat) : Int)) := ⟨by decide +kernel, rfl, by decide⟩
theorem d_Mo_sentence_143 : decode m_Mo_sentence.2.1 143 = .ok (.iconst 1, 1) ∧ 143 + 1 = 144 := ⟨by decide +kernel, rfl⟩
theorem d_Mo_sentence_144 : decode m_Mo_sentence.2.1 144 = .ok (.goto 4, 3) ∧ (((144 : Nat) : Int) + (4) = ((148 : Nat) : Int)) := ⟨by decide +kernel, by decide⟩
theorem d_Mo_sentence_147 : decode m_Mo_sentence.2.1 147 = .ok (.iconst 0, 1) ∧ 147 + 1 = 148 := ⟨by decide +kernel, rfl⟩
theorem d_Mo_sentence_148 : decode m_Mo_sentence.2.1 148 = .ok (.istore 7, 2) ∧ 148 + 2 = 150 := ⟨by decide +kernel, rfl⟩
theorem d_Mo_sentence_150 : decode m_Mo_sentence.2.1 150 = .ok (.bipush 7, 2) ∧ 150 + 2 = 152 ∧ (Int8.ofInt 7).toInt32 = Int32.ofInt 7 := ⟨by decide +kernel, rfl, by decide +kernel⟩
theorem d_Mo_sentence_152 : decode m_Mo_sentence.2.1 152 = .ok (.istore 8, 2) ∧ 152 + 2 = 154 := ⟨by decide +kernel, rfl⟩
theorem d_Mo_sentence_154 : decode m_Mo_sentence.2.1 154 = .ok (.iload 8, 2) ∧ 154 + 2 = 156 := ⟨by decide +kernel, rfl⟩
theorem d_Mo_sentence_156 : decode m_Mo_sentence.2.1 156 = .ok (.ifCond .le 25, 3) ∧ 156 + 3 = 159 ∧ (((156 : Nat) : Int) + (25) = ((181 : Nat) : Int)) := ⟨by decide +kernel, rfl, by decide⟩
theorem d_Mo_sentence_159 : decode m_Mo_sentence.2.1 159 = .ok (.aload_n 0, 1) ∧ 159 + 1 = 160 := ⟨by decide +kernel, rfl⟩
theorem d_Mo_sentence_160 : decode m_Mo_sentence.2.1 160 = .ok (.getfield 44, 3) ∧ 160 + 3 = 163 := ⟨by decide +kernel, rfl⟩
theorem d_Mo_sentence_163 : decode m_Mo_sentence.2.1 163 = .ok (.iload 8, 2) ∧ 163 + 2 = 165 := ⟨by decide +kernel, rfl⟩
theorem d_Mo_sentence_165 : decode m_Mo_sentence.2.1 165 = .ok (.aload_n 0, 1) ∧ 165 + 1 = 166 := ⟨by decide +kernel, rfl⟩
theorem d_Mo_sentence_166 : decode m_Mo_sentence.2.1 166 = .ok (.getfield 44, 3) ∧ 166 + 3 = 169 := ⟨by decide +kernel, rfl⟩
theorem d_Mo_sentence_169 : decode m_Mo_sentence.2.1 169 = .ok (.iload 8, 2) ∧ 169 + 2 = 171 := ⟨by decide +kernel, rfl⟩
theorem d_Mo_sentence_171 : decode m_Mo_sentence.2.1 171 = .ok (.iconst 1, 1) ∧ 171 + 1 = 172 := ⟨by decide +kernel, rfl⟩
theorem d_Mo_sentence_172 : decode m_Mo_sentence.2.1 172 = .ok (.isub, 1) ∧ 172 + 1 = 173 := ⟨by decide +kernel, rfl⟩
theorem d_Mo_sentence_173 : decode m_Mo_sentence.2.1 173 = .ok (.iaload, 1) ∧ 173 + 1 = 174 := ⟨by decide +kernel, rfl⟩
theorem d_Mo_sentence_174 : decode m_Mo_sentence.2.1 174 = .ok (.iastore, 1) ∧ 174 + 1 = 175 := ⟨by decide +kernel, rfl⟩
theorem d_Mo_sentence_175 : decode m_Mo_sentence.2.1 175 = .ok (.iinc 8 (-1), 3) ∧ 175 + 3 = 178 := ⟨by decide +kernel, rfl⟩
theorem d_Mo_sentence_178 : decode m_Mo_sentence.2.1 178 = .ok (.goto (-24), 3) ∧ (((178 : Nat) : Int) + (-24) = ((154 : Nat) : Int)) := ⟨by decide +kernel, by decide⟩
theorem d_Mo_sentence_181 : decode m_Mo_sentence.2.1 181 = .ok (.aload_n 0, 1) ∧ 181 + 1 = 182 := ⟨by decide +kernel, rfl⟩
theorem d_Mo_sentence_182 : decode m_Mo_sentence.2.1 182 = .ok (.getfield 44, 3) ∧ 182 + 3 = 185 := ⟨by decide +kernel, rfl⟩
theorem d_Mo_sentence_185 : decode m_Mo_sentence.2.1 185 = .ok (.iconst 0, 1) ∧ 185 + 1 = 186 := ⟨by decide +kernel, rfl⟩
theorem d_Mo_sentence_186 : decode m_Mo_sentence.2.1 186 = .ok (.iload 7, 2) ∧ 186 + 2 = 188 := ⟨by decide +kernel, rfl⟩
theorem d_Mo_sentence_188 : decode m_Mo_sentence.2.1 188 = .ok (.iastore, 1) ∧ 188 + 1 = 189 := ⟨by decide +kernel, rfl⟩
theorem d_Mo_sentence_189 : decode m_Mo_sentence.2.1 189 = .ok (.aload_n 0, 1) ∧ 189 + 1 = 190 := ⟨by decide +kernel, rfl⟩
theorem d_Mo_sentence_190 : decode m_Mo_sentence.2.1 190 = .ok (.dup, 1) ∧ 190 + 1 = 191 := ⟨by decide +kernel, rfl⟩
theorem d_Mo_sentence_191 : decode m_Mo_sentence.2.1 191 = .ok (.getfield 260, 3) ∧ 191 + 3 = 194 := ⟨by decide +kernel, rfl⟩
theorem d_Mo_sentence_194 : decode m_Mo_sentence.2.1 194 = .ok (.aload_n 0, 1) ∧ 194 + 1 = 195 := ⟨by decide +kernel, rfl⟩
theorem d_Mo_sentence_195 : decode m_Mo_sentence.2.1 195 = .ok (.getfield 260, 3) ∧ 195 + 3 = 198 := ⟨by decide +kernel, rfl⟩
theorem d_Mo_sentence_198 : decode m_Mo_sentence.2.1 198 = .ok (.bipush 8, 2) ∧ 198 + 2 = 200 ∧ (Int8.ofInt 8).toInt32 = Int32.ofInt 8 := ⟨by decide +kernel, rfl, by decide +kernel⟩
theorem d_Mo_sentence_200 : decode m_Mo_sentence.2.1 200 = .ok (.if_icmp .ge 7, 3) ∧ 200 + 3 = 203 ∧ (((200 : Nat) : Int) + (7) = ((207 : Nat) : Int)) := ⟨by decide +kernel, rfl, by decide⟩
theorem d_Mo_sentence_203 : decode m_Mo_sentence.2.1 203 = .ok (.iconst 1, 1) ∧ 203 + 1 = 204 := ⟨by decide +kernel, rfl⟩
theorem d_Mo_sentence_204 : decode m_Mo_sentence.2.1 204 = .ok (.goto 4, 3) ∧ (((204 : Nat) : Int) + (4) = ((208 : Nat) : Int)) := ⟨by decide +kernel, by decide⟩
theorem d_Mo_sentence_207 : decode m_Mo_sentence.2.1 207 = .ok (.iconst 0, 1) ∧ 207 + 1 = 208 := ⟨by decide +kernel, rfl⟩
theorem d_Mo_sentence_208 : decode m_Mo_sentence.2.1 208 = .ok (.iadd, 1) ∧ 208 + 1 = 209 := ⟨by decide +kernel, rfl⟩
theorem d_Mo_sentence_209 : decode m_Mo_sentence.2.1 209 = .ok (.putfield 260, 3) ∧ 209 + 3 = 212 := ⟨by decide +kernel, rfl⟩
theorem d_Mo_sentence_212 : decode m_Mo_sentence.2.1 212 = .ok (.aload_n 0, 1) ∧ 212 + 1 = 213 := ⟨by decide +kernel, rfl⟩
theorem d_Mo_sentence_213 : decode m_Mo_sentence.2.1 213 = .ok (.dup, 1) ∧ 213 + 1 = 214 := ⟨by decide +kernel, rfl⟩
theorem d_Mo_sentence_214 : decode m_Mo_sentence.2.1 214 = .ok (.getfield 263, 3) ∧ 214 + 3 = 217 := ⟨by decide +kernel, rfl⟩
theorem d_Mo_sentence_217 : decode m_Mo_sentence.2.1 217 = .ok (.iconst 1, 1) ∧ 217 + 1 = 218 := ⟨by decide +kernel, rfl⟩
theorem d_Mo_sentence_218 : decode m_Mo_sentence.2.1 218 = .ok (.iadd, 1) ∧ 218 + 1 = 219 := ⟨by decide +kernel, rfl⟩
theorem d_Mo_sentence_219 : decode m_Mo_sentence.2.1 219 = .ok (.putfield 263, 3) ∧ 219 + 3 = 222 := ⟨by decide +kernel, rfl⟩
theorem d_Mo_sentence_222 : decode m_Mo_sentence.2.1 222 = .ok (.iload 7, 2) ∧ 222 + 2 = 224 := ⟨by decide +kernel, rfl⟩
theorem d_Mo_sentence_224 : decode m_Mo_sentence.2.1 224 = .ok (.ireturn, 1) := by decide +kernel
theorem d_Mo_latest_0 : decode m_Mo_latest.2.1 0 = .ok (.iload_n 1, 1) ∧ 0 + 1 = 1 := ⟨by decide +kernel, rfl⟩
theorem d_Mo_latest_1 : decode m_Mo_latest.2.1 1 = .ok (.i2l, 1) ∧ 1 + 1 = 2 := ⟨by decide +kernel, rfl⟩
theorem d_Mo_latest_2 : decode m_Mo_latest.2.1 2 = .ok (.lconst 0, 1) ∧ 2 + 1 = 3 := ⟨by decide +kernel, rfl⟩
theorem d_Mo_latest_3 : decode m_Mo_latest.2.1 3 = .ok (.aload_n 0, 1) ∧ 3 + 1 = 4 := ⟨by decide +kernel, rfl⟩
theorem d_Mo_latest_4 : decode m_Mo_latest.2.1 4 = .ok (.getfield 260, 3) ∧ 4 + 3 = 7 := ⟨by decide +kernel, rfl⟩
theorem d_Mo_latest_7 : decode m_Mo_latest.2.1 7 = .ok (.iconst 1, 1) ∧ 7 + 1 = 8 := ⟨by decide +kernel, rfl⟩
theorem d_Mo_latest_8 : decode m_Mo_latest.2.1 8 = .ok (.isub, 1) ∧ 8 + 1 = 9 := ⟨by decide +kernel, rfl⟩
theorem d_Mo_latest_9 : decode m_Mo_latest.2.1 9 = .ok (.i2l, 1) ∧ 9 + 1 = 10 := ⟨by decide +kernel, rfl⟩
theorem d_Mo_latest_10 : decode m_Mo_latest.2.1 10 = .ok (.invokestatic 80, 3) ∧ 10 + 3 = 13 := ⟨by decide +kernel, rfl⟩
theorem d_Mo_latest_13 : decode m_Mo_latest.2.1 13 = .ok (.ifCond .eq 12, 3) ∧ 13 + 3 = 16 ∧ (((13 : Nat) : Int) + (12) = ((25 : Nat) : Int)) := ⟨by decide +kernel, rfl, by decide⟩
theorem d_Mo_latest_16 : decode m_Mo_latest.2.1 16 = .ok (.aload_n 0, 1) ∧ 16 + 1 = 17 := ⟨by decide +kernel, rfl⟩
theorem d_Mo_latest_17 : decode m_Mo_latest.2.1 17 = .ok (.getfield 44, 3) ∧ 17 + 3 = 20 := ⟨by decide +kernel, rfl⟩
theorem d_Mo_latest_20 : decode m_Mo_latest.2.1 20 = .ok (.iload_n 1, 1) ∧ 20 + 1 = 21 := ⟨by decide +kernel, rfl⟩
theorem d_Mo_latest_21 : decode m_Mo_latest.2.1 21 = .ok (.iaload, 1) ∧ 21 + 1 = 22 := ⟨by decide +kernel, rfl⟩
theorem d_Mo_latest_22 : decode m_Mo_latest.2.1 22 = .ok (.goto 5, 3) ∧ (((22 : Nat) : Int) + (5) = ((27 : Nat) : Int)) := ⟨by decide +kernel, by decide⟩
theorem d_Mo_latest_25 : decode m_Mo_latest.2.1 25 = .ok (.bipush (-101), 2) ∧ 25 + 2 = 27 ∧ (Int8.ofInt (-101)).toInt32 = Int32.ofInt (-101) := ⟨by decide +kernel, rfl, by decide +kernel⟩
theorem d_Mo_latest_27 : decode m_Mo_latest.2.1 27 = .ok (.ireturn, 1) := by decide +kernel
theorem d_Mo_isSpread_0 : decode m_Mo_isSpread.2.1 0 = .ok (.iconst 0, 1) ∧ 0 + 1 = 1 := ⟨by decide +kernel, rfl⟩
theorem d_Mo_isSpread_1 : decode m_Mo_isSpread.2.1 1 = .ok (.istore_n 1, 1) ∧ 1 + 1 = 2 := ⟨by decide +kernel, rfl⟩
theorem d_Mo_isSpread_2 : decode m_Mo_isSpread.2.1 2 = .ok (.iconst 0, 1) ∧ 2 + 1 = 3 := ⟨by decide +kernel, rfl⟩
theorem d_Mo_isSpread_3 : decode m_Mo_isSpread.2.1 3 = .ok (.istore_n 2, 1) ∧ 3 + 1 = 4 := ⟨by decide +kernel, rfl⟩
theorem d_Mo_isSpread_4 : decode m_Mo_isSpread.2.1 4 = .ok (.iload_n 2, 1) ∧ 4 + 1 = 5 := ⟨by decide +kernel, rfl⟩
theorem d_Mo_isSpread_5 : decode m_Mo_isSpread.2.1 5 = .ok (.aload_n 0, 1) ∧ 5 + 1 = 6 := ⟨by decide +kernel, rfl⟩
theorem d_Mo_isSpread_6 : decode m_Mo_isSpread.2.1 6 = .ok (.getfield 184, 3) ∧ 6 + 3 = 9 := ⟨by decide +kernel, rfl⟩
theorem d_Mo_isSpread_9 : decode m_Mo_isSpread.2.1 9 = .ok (.if_icmp .ge 153, 3) ∧ 9 + 3 = 12 ∧ (((9 : Nat) : Int) + (153) = ((162 : Nat) : Int)) := ⟨by decide +kernel, rfl, by decide⟩
theorem d_Mo_isSpread_12 : decode m_Mo_isSpread.2.1 12 = .ok (.iconst 0, 1) ∧ 12 + 1 = 13 := ⟨by decide +kernel, rfl⟩
theorem d_Mo_isSpread_13 : decode m_Mo_isSpread.2.1 13 = .ok (.istore_n 3, 1) ∧ 13 + 1 = 14 := ⟨by decide +kernel, rfl⟩
theorem d_Mo_isSpread_14 : decode m_Mo_isSpread.2.1 14 = .ok (.iload_n 3, 1) ∧ 14 + 1 = 15 := ⟨by decide +kernel, rfl⟩
theorem d_Mo_isSpread_15 : decode m_Mo_isSpread.2.1 15 = .ok (.aload_n 0, 1) ∧ 15 + 1 = 16 := ⟨by decide +kernel, rfl⟩
theorem d_Mo_isSpread_16 : decode m_Mo_isSpread.2.1 16 = .ok (.iload_n 2, 1) ∧ 16 + 1 = 17 := ⟨by decide +kernel, rfl⟩
theorem d_Mo_isSpread_17 : decode m_Mo_isSpread.2.1 17 = .ok (.invokevirtual 210, 3) ∧ 17 + 3 = 20 := ⟨by decide +kernel, rfl⟩
theorem d_Mo_isSpread_20 : decode m_Mo_isSpread.2.1 20 = .ok (.if_icmp .ge 136, 3) ∧ 20 + 3 = 23 ∧ (((20 : Nat) : Int) + (136) = ((156 : Nat) : Int)) := ⟨by decide +kernel, rfl, by decide⟩
theorem d_Mo_isSpread_23 : decode m_Mo_isSpread.2.1 23 = .ok (.aload_n 0, 1) ∧ 23 + 1 = 24 := ⟨by decide +kernel, rfl⟩
theorem d_Mo_isSpread_24 : decode m_Mo_isSpread.2.1 24 = .ok (.getfield 47, 3) ∧ 24 + 3 = 27 := ⟨by decide +kernel, rfl⟩
theorem d_Mo_isSpread_27 : decode m_Mo_isSpread.2.1 27 = .ok (.bipush 9, 2) ∧ 27 + 2 = 29 ∧ (Int8.ofInt 9).toInt32 = Int32.ofInt 9 := ⟨by decide +kernel, rfl, by decide +kernel⟩
theorem d_Mo_isSpread_29 : decode m_Mo_isSpread.2.1 29 = .ok (.iload_n 2, 1) ∧ 29 + 1 = 30 := ⟨by decide +kernel, rfl⟩
theorem d_Mo_isSpread_30 : decode m_Mo_isSpread.2.1 30 = .ok (.imul, 1) ∧ 30 + 1 = 31 := ⟨by decide +kernel, rfl⟩
theorem d_Mo_isSpread_31 : decode m_Mo_isSpread.2.1 31 = .ok (.iload_n 3, 1) ∧ 31 + 1 = 32 := ⟨by decide +kernel, rfl⟩
theorem d_Mo_isSpread_32 : decode m_Mo_isSpread.2.1 32 = .ok (.iadd, 1) ∧ 32 + 1 = 33 := ⟨by decide +kernel, rfl⟩
theorem d_Mo_isSpread_33 : decode m_Mo_isSpread.2.1 33 = .ok (.iaload, 1) ∧ 33 + 1 = 34 := ⟨by decide +kernel, rfl⟩
theorem d_Mo_isSpread_34 : decode m_Mo_isSpread.2.1 34 = .ok (.istore 4, 2) ∧ 34 + 2 = 36 := ⟨by decide +kernel, rfl⟩
theorem d_Mo_isSpread_36 : decode m_Mo_isSpread.2.1 36 = .ok (.iload_n 2, 1) ∧ 36 + 1 = 37 := ⟨by decide +kernel, rfl⟩
theorem d_Mo_isSpread_37 : decode m_Mo_isSpread.2.1 37 = .ok (.ifCond .le 9, 3) ∧ 37 + 3 = 40 ∧ (((37 : Nat) : Int) + (9) = ((46 : Nat) : Int)) := ⟨by decide +kernel, rfl, by decide⟩
theorem d_Mo_isSpread_40 : decode m_Mo_isSpread.2.1 40 = .ok (.iload_n 2, 1) ∧ 40 + 1 = 41 := ⟨by decide +kernel, rfl⟩
theorem d_Mo_isSpread_41 : decode m_Mo_isSpread.2.1 41 = .ok (.iconst 1, 1) ∧ 41 + 1 = 42 := ⟨by decide +kernel, rfl⟩
theorem d_Mo_isSpread_42 : decode m_Mo_isSpread.2.1 42 = .ok (.isub, 1) ∧ 42 + 1 = 43 := ⟨by decide +kernel, rfl⟩
theorem d_Mo_isSpread_43 : decode m_Mo_isSpread.2.1 43 = .ok (.goto 4, 3) ∧ (((43 : Nat) : Int) + (4) = ((47 : Nat) : Int)) := ⟨by decide +kernel, by decide⟩
theorem d_Mo_isSpread_46 : decode m_Mo_isSpread.2.1 46 = .ok (.iconst 0, 1) ∧ 46 + 1 = 47 := ⟨by decide +kernel, rfl⟩
theorem d_Mo_isSpread_47 : decode m_Mo_isSpread.2.1 47 = .ok (.istore 5, 2) ∧ 47 + 2 = 49 := ⟨by decide +kernel, rfl⟩
theorem d_Mo_isSpread_49 : decode m_Mo_isSpread.2.1 49 = .ok (.iload 5, 2) ∧ 49 + 2 = 51 := ⟨by decide +kernel, rfl⟩
theorem d_Mo_isSpread_51 : decode m_Mo_isSpread.2.1 51 = .ok (.aload_n 0, 1) ∧ 51 + 1 = 52 := ⟨by decide +kernel, rfl⟩
theorem d_Mo_isSpread_52 : decode m_Mo_isSpread.2.1 52 = .ok (.getfield 184, 3) ∧ 52 + 3 = 55 := ⟨by decide +kernel, rfl⟩
theorem d_Mo_isSpread_55 : decode m_Mo_isSpread.2.1 55 = .ok (.if_icmp .ge 95, 3) ∧ 55 + 3 = 58 ∧ (((55 : Nat) : Int) + (95) = ((150 : Nat) : Int)) := ⟨by decide +kernel, rfl, by decide⟩
theorem d_Mo_isSpread_58 : decode m_Mo_isSpread.2.1 58 = .ok (.iload 5, 2) ∧ 58 + 2 = 60 := ⟨by decide +kernel, rfl⟩
theorem d_Mo_isSpread_60 : decode m_Mo_isSpread.2.1 60 = .ok (.iload_n 2, 1) ∧ 60 + 1 = 61 := ⟨by decide +kernel, rfl⟩
theorem d_Mo_isSpread_61 : decode m_Mo_isSpread.2.1 61 = .ok (.iconst 1, 1) ∧ 61 + 1 = 62 := ⟨by decide +kernel, rfl⟩
theorem d_Mo_isSpread_62 : decode m_Mo_isSpread.2.1 62 = .ok (.iadd, 1) ∧ 62 + 1 = 63 := ⟨by decide +kernel, rfl⟩
theorem d_Mo_isSpread_63 : decode m_Mo_isSpread.2.1 63 = .ok (.if_icmp .gt 87, 3) ∧ 63 + 3 = 66 ∧ (((63 : Nat) : Int) + (87) = ((150 : Nat) : Int)) := ⟨by decide +kernel, rfl, by decide⟩
theorem d_Mo_isSpread_66 : decode m_Mo_isSpread.2.1 66 = .ok (.iload 4, 2) ∧ 66 + 2 = 68 := ⟨by decide +kernel, rfl⟩
theorem d_Mo_isSpread_68 : decode m_Mo_isSpread.2.1 68 = .ok (.iconst (-1), 1) ∧ 68 + 1 = 69 := ⟨by decide +kernel, rfl⟩
theorem d_Mo_isSpread_69 : decode m_Mo_isSpread.2.1 69 = .ok (.if_icmp .eq 81, 3) ∧ 69 + 3 = 72 ∧ (((69 : Nat) : Int) + (81) = ((150 : Nat) : Int)) := ⟨by decide +kernel, rfl, by decide⟩
theorem d_Mo_isSpread_72 : decode m_Mo_isSpread.2.1 72 = .ok (.iconst 0, 1) ∧ 72 + 1 = 73 := ⟨by decide +kernel, rfl⟩
theorem d_Mo_isSpread_73 : decode m_Mo_isSpread.2.1 73 = .ok (.istore 6, 2) ∧ 73 + 2 = 75 := ⟨by decide +kernel, rfl⟩
theorem d_Mo_isSpread_75 : decode m_Mo_isSpread.2.1 75 = .ok (.iload 6, 2) ∧ 75 + 2 = 77 := ⟨by decide +kernel, rfl⟩
theorem d_Mo_isSpread_77 : decode m_Mo_isSpread.2.1 77 = .ok (.aload_n 0, 1) ∧ 77 + 1 = 78 := ⟨by decide +kernel, rfl⟩
theorem d_Mo_isSpread_78 : decode m_Mo_isSpread.2.1 78 = .ok (.iload 5, 2) ∧ 78 + 2 = 80 := ⟨by decide +kernel, rfl⟩
theorem d_Mo_isSpread_80 : decode m_Mo_isSpread.2.1 80 = .ok (.invokevirtual 210, 3) ∧ 80 + 3 = 83 := ⟨by decide +kernel, rfl⟩
theorem d_Mo_isSpread_83 : decode m_Mo_isSpread.2.1 83 = .ok (.if_icmp .ge 61, 3) ∧ 83 + 3 = 86 ∧ (((83 : Nat) : Int) + (61) = ((144 : Nat) : Int)) := ⟨by decide +kernel, rfl, by decide⟩
theorem d_Mo_isSpread_86 : decode m_Mo_isSpread.2.1 86 = .ok (.aload_n 0, 1) ∧ 86 + 1 = 87 := ⟨by decide +kernel, rfl⟩
theorem d_Mo_isSpread_87 : decode m_Mo_isSpread.2.1 87 = .ok (.getfield 47, 3) ∧ 87 + 3 = 90 := ⟨by decide +kernel, rfl⟩
theorem d_Mo_isSpread_90 : decode m_Mo_isSpread.2.1 90 = .ok (.bipush 9, 2) ∧ 90 + 2 = 92 ∧ (Int8.ofInt 9).toInt32 = Int32.ofInt 9 := ⟨by decide +kernel, rfl, by decide +kernel⟩
theorem d_Mo_isSpread_92 : decode m_Mo_isSpread.2.1 92 = .ok (.iload 5, 2) ∧ 92 + 2 = 94 := ⟨by decide +kernel, rfl⟩
theorem d_Mo_isSpread_94 : decode m_Mo_isSpread.2.1 94 = .ok (.imul, 1) ∧ 94 + 1 = 95 := ⟨by decide +kernel, rfl⟩
theorem d_Mo_isSpread_95 : decode m_Mo_isSpread.2.1 95 = .ok (.iload 6, 2) ∧ 95 + 2 = 97 := ⟨by decide +kernel, rfl⟩
theorem d_Mo_isSpread_97 : decode m_Mo_isSpread.2.1 97 = .ok (.iadd, 1) ∧ 97 + 1 = 98 := ⟨by decide +kernel, rfl⟩
theorem d_Mo_isSpread_98 : decode m_Mo_isSpread.2.1 98 = .ok (.iaload, 1) ∧ 98 + 1 = 99 := ⟨by decide +kernel, rfl⟩
theorem d_Mo_isSpread_99 : decode m_Mo_isSpread.2.1 99 = .ok (.istore 7, 2) ∧ 99 + 2 = 101 := ⟨by decide +kernel, rfl⟩
theorem d_Mo_isSpread_101 : decode m_Mo_isSpread.2.1 101 = .ok (.iload 7, 2) ∧ 101 + 2 = 103 := ⟨by decide +kernel, rfl⟩
theorem d_Mo_isSpread_103 : decode m_Mo_isSpread.2.1 103 = .ok (.iload 4, 2) ∧ 103 + 2 = 105 := ⟨by decide +kernel, rfl⟩
theorem d_Mo_isSpread_105 : decode m_Mo_isSpread.2.1 105 = .ok (.if_icmp .le 33, 3) ∧ 105 + 3 = 108 ∧ (((105 : Nat) : Int) + (33) = ((138 : Nat) : Int)) := ⟨by decide +kernel, rfl, by decide⟩
theorem d_Mo_isSpread_108 : decode m_Mo_isSpread.2.1 108 = .ok (.aload_n 0, 1) ∧ 108 + 1 = 109 := ⟨by decide +kernel, rfl⟩
theorem d_Mo_isSpread_109 : decode m_Mo_isSpread.2.1 109 = .ok (.iload_n 2, 1) ∧ 109 + 1 = 110 := ⟨by decide +kernel, rfl⟩
theorem d_Mo_isSpread_110 : decode m_Mo_isSpread.2.1 110 = .ok (.iload_n 3, 1) ∧ 110 + 1 = 111 := ⟨by decide +kernel, rfl⟩
theorem d_Mo_isSpread_111 : decode m_Mo_isSpread.2.1 111 = .ok (.iload 5, 2) ∧ 111 + 2 = 113 := ⟨by decide +kernel, rfl⟩
theorem d_Mo_isSpread_113 : decode m_Mo_isSpread.2.1 113 = .ok (.iload 6, 2) ∧ 113 + 2 = 115 := ⟨by decide +kernel, rfl⟩
theorem d_Mo_isSpread_115 : decode m_Mo_isSpread.2.1 115 = .ok (.invokevirtual 240, 3) ∧ 115 + 3 = 118 := ⟨by decide +kernel, rfl⟩
theorem d_Mo_isSpread_118 : decode m_Mo_isSpread.2.1 118 = .ok (.ifCond .eq 20, 3) ∧ 118 + 3 = 121 ∧ (((118 : Nat) : Int) + (20) = ((138 : Nat) : Int)) := ⟨by decide +kernel, rfl, by decide⟩
theorem d_Mo_isSpread_121 : decode m_Mo_isSpread.2.1 121 = .ok (.aload_n 0, 1) ∧ 121 + 1 = 122 := ⟨by decide +kernel, rfl⟩
theorem d_Mo_isSpread_122 : decode m_Mo_isSpread.2.1 122 = .ok (.getfield 47, 3) ∧ 122 + 3 = 125 := ⟨by decide +kernel, rfl⟩
theorem d_Mo_isSpread_125 : decode m_Mo_isSpread.2.1 125 = .ok (.bipush 9, 2) ∧ 125 + 2 = 127 ∧ (Int8.ofInt 9).toInt32 = Int32.ofInt 9 := ⟨by decide +kernel, rfl, by decide +kernel⟩
theorem d_Mo_isSpread_127 : decode m_Mo_isSpread.2.1 127 = .ok (.iload 5, 2) ∧ 127 + 2 = 129 := ⟨by decide +kernel, rfl⟩
theorem d_Mo_isSpread_129 : decode m_Mo_isSpread.2.1 129 = .ok (.imul, 1) ∧ 129 + 1 = 130 := ⟨by decide +kernel, rfl⟩
theorem d_Mo_isSpread_130 : decode m_Mo_isSpread.2.1 130 = .ok (.iload 6, 2) ∧ 130 + 2 = 132 := ⟨by decide +kernel, rfl⟩
theorem d_Mo_isSpread_132 : decode m_Mo_isSpread.2.1 132 = .ok (.iadd, 1) ∧ 132 + 1 = 133 := ⟨by decide +kernel, rfl⟩
theorem d_Mo_isSpread_133 : decode m_Mo_isSpread.2.1 133 = .ok (.iload 4, 2) ∧ 133 + 2 = 135 := ⟨by decide +kernel, rfl⟩
theorem d_Mo_isSpread_135 : decode m_Mo_isSpread.2.1 135 = .ok (.iastore, 1) ∧ 135 + 1 = 136 := ⟨by decide +kernel, rfl⟩
theorem d_Mo_isSpread_136 : decode m_Mo_isSpread.2.1 136 = .ok (.iconst 1, 1) ∧ 136 + 1 = 137 := ⟨by decide +kernel, rfl⟩
theorem d_Mo_isSpread_137 : decode m_Mo_isSpread.2.1 137 = .ok (.istore_n 1, 1) ∧ 137 + 1 = 138 := ⟨by decide +kernel, rfl⟩
theorem d_Mo_isSpread_138 : decode m_Mo_isSpread.2.1 138 = .ok (.iinc 6 1, 3) ∧ 138 + 3 = 141 := ⟨by decide +kernel, rfl⟩
theorem d_Mo_isSpread_141 : decode m_Mo_isSpread.2.1 141 = .ok (.goto (-66), 3) ∧ (((141 : Nat) : Int) + (-66) = ((75 : Nat) : Int)) := ⟨by decide +kernel, by decide⟩
theorem d_Mo_isSpread_144 : decode m_Mo_isSpread.2.1 144 = .ok (.iinc 5 1, 3) ∧ 144 + 3 = 147 := ⟨by decide +kernel, rfl⟩
theorem d_Mo_isSpread_147 : decode m_Mo_isSpread.2.1 147 = .ok (.goto (-98), 3) ∧ (((147 : Nat) : Int) + (-98) = ((49 : Nat) : Int)) := ⟨by decide +kernel, by decide⟩
theorem d_Mo_isSpread_150 : decode m_Mo_isSpread.2.1 150 = .ok (.iinc 3 1, 3) ∧ 150 + 3 = 153 := ⟨by decide +kernel, rfl⟩
theorem d_Mo_isSpread_153 : decode m_Mo_isSpread.2.1 153 = .ok (.goto (-139), 3) ∧ (((153 : Nat) : Int) + (-139) = ((14 : Nat) : Int)) := ⟨by decide +kernel, by decide⟩
theorem d_Mo_isSpread_156 : decode m_Mo_isSpread.2.1 156 = .ok (.iinc 2 1, 3) ∧ 156 + 3 = 159 := ⟨by decide +kernel, rfl⟩
theorem d_Mo_isSpread_159 : decode m_Mo_isSpread.2.1 159 = .ok (.goto (-155), 3) ∧ (((159 : Nat) : Int) + (-155) = ((4 : Nat) : Int)) := ⟨by decide +kernel, by decide⟩
theorem d_Mo_isSpread_162 : decode m_Mo_isSpread.2.1 162 = .ok (.iload_n 1, 1) ∧ 162 + 1 = 163 := ⟨by decide +kernel, rfl⟩
theorem d_Mo_isSpread_163 : decode m_Mo_isSpread.2.1 163 = .ok (.ireturn, 1) := by decide +kernel
theorem d_Mo_piecesOf_0 : decode m_Mo_piecesOf.2.1 0 = .ok (.aload_n 0, 1) ∧ 0 + 1 = 1 := ⟨by decide +kernel, rfl⟩
theorem d_Mo_piecesOf_1 : decode m_Mo_piecesOf.2.1 1 = .ok (.invokevirtual 217, 3) ∧ 1 + 3 = 4 := ⟨by decide +kernel, rfl⟩
theorem d_Mo_piecesOf_4 : decode m_Mo_piecesOf.2.1 4 = .ok (.iconst 0, 1) ∧ 4 + 1 = 5 := ⟨by decide +kernel, rfl⟩
theorem d_Mo_piecesOf_5 : decode m_Mo_piecesOf.2.1 5 = .ok (.istore_n 3, 1) ∧ 5 + 1 = 6 := ⟨by decide +kernel, rfl⟩
theorem d_Mo_piecesOf_6 : decode m_Mo_piecesOf.2.1 6 = .ok (.iload_n 3, 1) ∧ 6 + 1 = 7 := ⟨by decide +kernel, rfl⟩
theorem d_Mo_piecesOf_7 : decode m_Mo_piecesOf.2.1 7 = .ok (.aload_n 0, 1) ∧ 7 + 1 = 8 := ⟨by decide +kernel, rfl⟩
theorem d_Mo_piecesOf_8 : decode m_Mo_piecesOf.2.1 8 = .ok (.getfield 184, 3) ∧ 8 + 3 = 11 := ⟨by decide +kernel, rfl⟩
theorem d_Mo_piecesOf_11 : decode m_Mo_piecesOf.2.1 11 = .ok (.if_icmp .ge 63, 3) ∧ 11 + 3 = 14 ∧ (((11 : Nat) : Int) + (63) = ((74 : Nat) : Int)) := ⟨by decide +kernel, rfl, by decide⟩
theorem d_Mo_piecesOf_14 : decode m_Mo_piecesOf.2.1 14 = .ok (.iconst 0, 1) ∧ 14 + 1 = 15 := ⟨by decide +kernel, rfl⟩
theorem d_Mo_piecesOf_15 : decode m_Mo_piecesOf.2.1 15 = .ok (.istore 4, 2) ∧ 15 + 2 = 17 := ⟨by decide +kernel, rfl⟩
theorem d_Mo_piecesOf_17 : decode m_Mo_piecesOf.2.1 17 = .ok (.iload 4, 2) ∧ 17 + 2 = 19 := ⟨by decide +kernel, rfl⟩
theorem d_Mo_piecesOf_19 : decode m_Mo_piecesOf.2.1 19 = .ok (.aload_n 0, 1) ∧ 19 + 1 = 20 := ⟨by decide +kernel, rfl⟩
theorem d_Mo_piecesOf_20 : decode m_Mo_piecesOf.2.1 20 = .ok (.iload_n 3, 1) ∧ 20 + 1 = 21 := ⟨by decide +kernel, rfl⟩
theorem d_Mo_piecesOf_21 : decode m_Mo_piecesOf.2.1 21 = .ok (.invokevirtual 210, 3) ∧ 21 + 3 = 24 := ⟨by decide +kernel, rfl⟩
theorem d_Mo_piecesOf_24 : decode m_Mo_piecesOf.2.1 24 = .ok (.if_icmp .ge 44, 3) ∧ 24 + 3 = 27 ∧ (((24 : Nat) : Int) + (44) = ((68 : Nat) : Int)) := ⟨by decide +kernel, rfl, by decide⟩
theorem d_Mo_piecesOf_27 : decode m_Mo_piecesOf.2.1 27 = .ok (.aload_n 0, 1) ∧ 27 + 1 = 28 := ⟨by decide +kernel, rfl⟩
theorem d_Mo_piecesOf_28 : decode m_Mo_piecesOf.2.1 28 = .ok (.getfield 47, 3) ∧ 28 + 3 = 31 := ⟨by decide +kernel, rfl⟩
theorem d_Mo_piecesOf_31 : decode m_Mo_piecesOf.2.1 31 = .ok (.bipush 9, 2) ∧ 31 + 2 = 33 ∧ (Int8.ofInt 9).toInt32 = Int32.ofInt 9 := ⟨by decide +kernel, rfl, by decide +kernel⟩
theorem d_Mo_piecesOf_33 : decode m_Mo_piecesOf.2.1 33 = .ok (.iload_n 3, 1) ∧ 33 + 1 = 34 := ⟨by decide +kernel, rfl⟩
theorem d_Mo_piecesOf_34 : decode m_Mo_piecesOf.2.1 34 = .ok (.imul, 1) ∧ 34 + 1 = 35 := ⟨by decide +kernel, rfl⟩
theorem d_Mo_piecesOf_35 : decode m_Mo_piecesOf.2.1 35 = .ok (.iload 4, 2) ∧ 35 + 2 = 37 := ⟨by decide +kernel, rfl⟩
theorem d_Mo_piecesOf_37 : decode m_Mo_piecesOf.2.1 37 = .ok (.iadd, 1) ∧ 37 + 1 = 38 := ⟨by decide +kernel, rfl⟩
theorem d_Mo_piecesOf_38 : decode m_Mo_piecesOf.2.1 38 = .ok (.aload_n 0, 1) ∧ 38 + 1 = 39 := ⟨by decide +kernel, rfl⟩
theorem d_Mo_piecesOf_39 : decode m_Mo_piecesOf.2.1 39 = .ok (.iload_n 1, 1) ∧ 39 + 1 = 40 := ⟨by decide +kernel, rfl⟩
theorem d_Mo_piecesOf_40 : decode m_Mo_piecesOf.2.1 40 = .ok (.iload_n 2, 1) ∧ 40 + 1 = 41 := ⟨by decide +kernel, rfl⟩
theorem d_Mo_piecesOf_41 : decode m_Mo_piecesOf.2.1 41 = .ok (.iload_n 3, 1) ∧ 41 + 1 = 42 := ⟨by decide +kernel, rfl⟩
theorem d_Mo_piecesOf_42 : decode m_Mo_piecesOf.2.1 42 = .ok (.iload 4, 2) ∧ 42 + 2 = 44 := ⟨by decide +kernel, rfl⟩
theorem d_Mo_piecesOf_44 : decode m_Mo_piecesOf.2.1 44 = .ok (.invokevirtual 251, 3) ∧ 44 + 3 = 47 := ⟨by decide +kernel, rfl⟩
theorem d_Mo_piecesOf_47 : decode m_Mo_piecesOf.2.1 47 = .ok (.ifCond .eq 13, 3) ∧ 47 + 3 = 50 ∧ (((47 : Nat) : Int) + (13) = ((60 : Nat) : Int)) := ⟨by decide +kernel, rfl, by decide⟩
theorem d_Mo_piecesOf_50 : decode m_Mo_piecesOf.2.1 50 = .ok (.bipush 9, 2) ∧ 50 + 2 = 52 ∧ (Int8.ofInt 9).toInt32 = Int32.ofInt 9 := ⟨by decide +kernel, rfl, by decide +kernel⟩
theorem d_Mo_piecesOf_52 : decode m_Mo_piecesOf.2.1 52 = .ok (.iload_n 3, 1) ∧ 52 + 1 = 53 := ⟨by decide +kernel, rfl⟩
theorem d_Mo_piecesOf_53 : decode m_Mo_piecesOf.2.1 53 = .ok (.imul, 1) ∧ 53 + 1 = 54 := ⟨by decide +kernel, rfl⟩
theorem d_Mo_piecesOf_54 : decode m_Mo_piecesOf.2.1 54 = .ok (.iload 4, 2) ∧ 54 + 2 = 56 := ⟨by decide +kernel, rfl⟩
theorem d_Mo_piecesOf_56 : decode m_Mo_piecesOf.2.1 56 = .ok (.iadd, 1) ∧ 56 + 1 = 57 := ⟨by decide +kernel, rfl⟩
theorem d_Mo_piecesOf_57 : decode m_Mo_piecesOf.2.1 57 = .ok (.goto 4, 3) ∧ (((57 : Nat) : Int) + (4) = ((61 : Nat) : Int)) := ⟨by decide +kernel, by decide⟩
theorem d_Mo_piecesOf_60 : decode m_Mo_piecesOf.2.1 60 = .ok (.iconst (-1), 1) ∧ 60 + 1 = 61 := ⟨by decide +kernel, rfl⟩
theorem d_Mo_piecesOf_61 : decode m_Mo_piecesOf.2.1 61 = .ok (.iastore, 1) ∧ 61 + 1 = 62 := ⟨by decide +kernel, rfl⟩
theorem d_Mo_piecesOf_62 : decode m_Mo_piecesOf.2.1 62 = .ok (.iinc 4 1, 3) ∧ 62 + 3 = 65 := ⟨by decide +kernel, rfl⟩
theorem d_Mo_piecesOf_65 : decode m_Mo_piecesOf.2.1 65 = .ok (.goto (-48), 3) ∧ (((65 : Nat) : Int) + (-48) = ((17 : Nat) : Int)) := ⟨by decide +kernel, by decide⟩
theorem d_Mo_piecesOf_68 : decode m_Mo_piecesOf.2.1 68 = .ok (.iinc 3 1, 3) ∧ 68 + 3 = 71 := ⟨by decide +kernel, rfl⟩
theorem d_Mo_piecesOf_71 : decode m_Mo_piecesOf.2.1 71 = .ok (.goto (-65), 3) ∧ (((71 : Nat) : Int) + (-65) = ((6 : Nat) : Int)) := ⟨by decide +kernel, by decide⟩
theorem d_Mo_piecesOf_74 : decode m_Mo_piecesOf.2.1 74 = .ok (.iconst 1, 1) ∧ 74 + 1 = 75 := ⟨by decide +kernel, rfl⟩
theorem d_Mo_piecesOf_75 : decode m_Mo_piecesOf.2.1 75 = .ok (.istore_n 3, 1) ∧ 75 + 1 = 76 := ⟨by decide +kernel, rfl⟩
theorem d_Mo_piecesOf_76 : decode m_Mo_piecesOf.2.1 76 = .ok (.iload_n 3, 1) ∧ 76 + 1 = 77 := ⟨by decide +kernel, rfl⟩
theorem d_Mo_piecesOf_77 : decode m_Mo_piecesOf.2.1 77 = .ok (.ifCond .eq 11, 3) ∧ 77 + 3 = 80 ∧ (((77 : Nat) : Int) + (11) = ((88 : Nat) : Int)) := ⟨by decide +kernel, rfl, by decide⟩
theorem d_Mo_piecesOf_80 : decode m_Mo_piecesOf.2.1 80 = .ok (.aload_n 0, 1) ∧ 80 + 1 = 81 := ⟨by decide +kernel, rfl⟩
theorem d_Mo_piecesOf_81 : decode m_Mo_piecesOf.2.1 81 = .ok (.invokevirtual 266, 3) ∧ 81 + 3 = 84 := ⟨by decide +kernel, rfl⟩
theorem d_Mo_piecesOf_84 : decode m_Mo_piecesOf.2.1 84 = .ok (.istore_n 3, 1) ∧ 84 + 1 = 85 := ⟨by decide +kernel, rfl⟩
theorem d_Mo_piecesOf_85 : decode m_Mo_piecesOf.2.1 85 = .ok (.goto (-9), 3) ∧ (((85 : Nat) : Int) + (-9) = ((76 : Nat) : Int)) := ⟨by decide +kernel, by decide⟩
theorem d_Mo_piecesOf_88 : decode m_Mo_piecesOf.2.1 88 = .ok (.iconst 0, 1) ∧ 88 + 1 = 89 := ⟨by decide +kernel, rfl⟩
theorem d_Mo_piecesOf_89 : decode m_Mo_piecesOf.2.1 89 = .ok (.istore 4, 2) ∧ 89 + 2 = 91 := ⟨by decide +kernel, rfl⟩
theorem d_Mo_piecesOf_91 : decode m_Mo_piecesOf.2.1 91 = .ok (.iconst 0, 1) ∧ 91 + 1 = 92 := ⟨by decide +kernel, rfl⟩
theorem d_Mo_piecesOf_92 : decode m_Mo_piecesOf.2.1 92 = .ok (.istore 5, 2) ∧ 92 + 2 = 94 := ⟨by decide +kernel, rfl⟩
theorem d_Mo_piecesOf_94 : decode m_Mo_piecesOf.2.1 94 = .ok (.iload 5, 2) ∧ 94 + 2 = 96 := ⟨by decide +kernel, rfl⟩
theorem d_Mo_piecesOf_96 : decode m_Mo_piecesOf.2.1 96 = .ok (.aload_n 0, 1) ∧ 96 + 1 = 97 := ⟨by decide +kernel, rfl⟩
theorem d_Mo_piecesOf_97 : decode m_Mo_piecesOf.2.1 97 = .ok (.getfield 184, 3) ∧ 97 + 3 = 100 := ⟨by decide +kernel, rfl⟩
theorem d_Mo_piecesOf_100 : decode m_Mo_piecesOf.2.1 100 = .ok (.if_icmp .ge 63, 3) ∧ 100 + 3 = 103 ∧ (((100 : Nat) : Int) + (63) = ((163 : Nat) : Int)) := ⟨by decide +kernel, rfl, by decide⟩
theorem d_Mo_piecesOf_103 : decode m_Mo_piecesOf.2.1 103 = .ok (.iconst 0, 1) ∧ 103 + 1 = 104 := ⟨by decide +kernel, rfl⟩
theorem d_Mo_piecesOf_104 : decode m_Mo_piecesOf.2.1 104 = .ok (.istore 6, 2) ∧ 104 + 2 = 106 := ⟨by decide +kernel, rfl⟩
theorem d_Mo_piecesOf_106 : decode m_Mo_piecesOf.2.1 106 = .ok (.iload 6, 2) ∧ 106 + 2 = 108 := ⟨by decide +kernel, rfl⟩
theorem d_Mo_piecesOf_108 : decode m_Mo_piecesOf.2.1 108 = .ok (.aload_n 0, 1) ∧ 108 + 1 = 109 := ⟨by decide +kernel, rfl⟩
theorem d_Mo_piecesOf_109 : decode m_Mo_piecesOf.2.1 109 = .ok (.iload 5, 2) ∧ 109 + 2 = 111 := ⟨by decide +kernel, rfl⟩
theorem d_Mo_piecesOf_111 : decode m_Mo_piecesOf.2.1 111 = .ok (.invokevirtual 210, 3) ∧ 111 + 3 = 114 := ⟨by decide +kernel, rfl⟩
theorem d_Mo_piecesOf_114 : decode m_Mo_piecesOf.2.1 114 = .ok (.if_icmp .ge 43, 3) ∧ 114 + 3 = 117 ∧ (((114 : Nat) : Int) + (43) = ((157 : Nat) : Int)) := ⟨by decide +kernel, rfl, by decide⟩
theorem d_Mo_piecesOf_117 : decode m_Mo_piecesOf.2.1 117 = .ok (.iload 4, 2) ∧ 117 + 2 = 119 := ⟨by decide +kernel, rfl⟩
theorem d_Mo_piecesOf_119 : decode m_Mo_piecesOf.2.1 119 = .ok (.aload_n 0, 1) ∧ 119 + 1 = 120 := ⟨by decide +kernel, rfl⟩
theorem d_Mo_piecesOf_120 : decode m_Mo_piecesOf.2.1 120 = .ok (.getfield 47, 3) ∧ 120 + 3 = 123 := ⟨by decide +kernel, rfl⟩
theorem d_Mo_piecesOf_123 : decode m_Mo_piecesOf.2.1 123 = .ok (.bipush 9, 2) ∧ 123 + 2 = 125 ∧ (Int8.ofInt 9).toInt32 = Int32.ofInt 9 := ⟨by decide +kernel, rfl, by decide +kernel⟩
theorem d_Mo_piecesOf_125 : decode m_Mo_piecesOf.2.1 125 = .ok (.iload 5, 2) ∧ 125 + 2 = 127 := ⟨by decide +kernel, rfl⟩
theorem d_Mo_piecesOf_127 : decode m_Mo_piecesOf.2.1 127 = .ok (.imul, 1) ∧ 127 + 1 = 128 := ⟨by decide +kernel, rfl⟩
theorem d_Mo_piecesOf_128 : decode m_Mo_piecesOf.2.1 128 = .ok (.iload 6, 2) ∧ 128 + 2 = 130 := ⟨by decide +kernel, rfl⟩
theorem d_Mo_piecesOf_130 : decode m_Mo_piecesOf.2.1 130 = .ok (.iadd, 1) ∧ 130 + 1 = 131 := ⟨by decide +kernel, rfl⟩
theorem d_Mo_piecesOf_131 : decode m_Mo_piecesOf.2.1 131 = .ok (.iaload, 1) ∧ 131 + 1 = 132 := ⟨by decide +kernel, rfl⟩
theorem d_Mo_piecesOf_132 : decode m_Mo_piecesOf.2.1 132 = .ok (.bipush 9, 2) ∧ 132 + 2 = 134 ∧ (Int8.ofInt 9).toInt32 = Int32.ofInt 9 := ⟨by decide +kernel, rfl, by decide +kernel⟩
theorem d_Mo_piecesOf_134 : decode m_Mo_piecesOf.2.1 134 = .ok (.iload 5, 2) ∧ 134 + 2 = 136 := ⟨by decide +kernel, rfl⟩
theorem d_Mo_piecesOf_136 : decode m_Mo_piecesOf.2.1 136 = .ok (.imul, 1) ∧ 136 + 1 = 137 := ⟨by decide +kernel, rfl⟩
theorem d_Mo_piecesOf_137 : decode m_Mo_piecesOf.2.1 137 = .ok (.iload 6, 2) ∧ 137 + 2 = 139 := ⟨by decide +kernel, rfl⟩
theorem d_Mo_piecesOf_139 : decode m_Mo_piecesOf.2.1 139 = .ok (.iadd, 1) ∧ 139 + 1 = 140 := ⟨by decide +kernel, rfl⟩
theorem d_Mo_piecesOf_140 : decode m_Mo_piecesOf.2.1 140 = .ok (.if_icmp .ne 7, 3) ∧ 140 + 3 = 143 ∧ (((140 : Nat) : Int) + (7) = ((147 : Nat) : Int)) := ⟨by decide +kernel, rfl, by decide⟩
theorem d_Mo_piecesOf_143 : decode m_Mo_piecesOf.2.1 143 = .ok (.iconst 1, 1) ∧ 143 + 1 = 144 := ⟨by decide +kernel, rfl⟩
theorem d_Mo_piecesOf_144 : decode m_Mo_piecesOf.2.1 144 = .ok (.goto 4, 3) ∧ (((144 : Nat) : Int) + (4) = ((148 : Nat) : Int)) := ⟨by decide +kernel, by decide⟩
theorem d_Mo_piecesOf_147 : decode m_Mo_piecesOf.2.1 147 = .ok (.iconst 0, 1) ∧ 147 + 1 = 148 := ⟨by decide +kernel, rfl⟩
theorem d_Mo_piecesOf_148 : decode m_Mo_piecesOf.2.1 148 = .ok (.iadd, 1) ∧ 148 + 1 = 149 := ⟨by decide +kernel, rfl⟩
theorem d_Mo_piecesOf_149 : decode m_Mo_piecesOf.2.1 149 = .ok (.istore 4, 2) ∧ 149 + 2 = 151 := ⟨by decide +kernel, rfl⟩
theorem d_Mo_piecesOf_151 : decode m_Mo_piecesOf.2.1 151 = .ok (.iinc 6 1, 3) ∧ 151 + 3 = 154 := ⟨by decide +kernel, rfl⟩
theorem d_Mo_piecesOf_154 : decode m_Mo_piecesOf.2.1 154 = .ok (.goto (-48), 3) ∧ (((154 : Nat) : Int) + (-48) = ((106 : Nat) : Int)) := ⟨by decide +kernel, by decide⟩
theorem d_Mo_piecesOf_157 : decode m_Mo_piecesOf.2.1 157 = .ok (.iinc 5 1, 3) ∧ 157 + 3 = 160 := ⟨by decide +kernel, rfl⟩
theorem d_Mo_piecesOf_160 : decode m_Mo_piecesOf.2.1 160 = .ok (.goto (-66), 3) ∧ (((160 : Nat) : Int) + (-66) = ((94 : Nat) : Int)) := ⟨by decide +kernel, by decide⟩
theorem d_Mo_piecesOf_163 : decode m_Mo_piecesOf.2.1 163 = .ok (.iload 4, 2) ∧ 163 + 2 = 165 := ⟨by decide +kernel, rfl⟩
theorem d_Mo_piecesOf_165 : decode m_Mo_piecesOf.2.1 165 = .ok (.ireturn, 1) := by decide +kernel
theorem d_Mo_pieces_0 : decode m_Mo_pieces.2.1 0 = .ok (.iload_n 1, 1) ∧ 0 + 1 = 1 := ⟨by decide +kernel, rfl⟩
theorem d_Mo_pieces_1 : decode m_Mo_pieces.2.1 1 = .ok (.i2l, 1) ∧ 1 + 1 = 2 := ⟨by decide +kernel, rfl⟩
theorem d_Mo_pieces_2 : decode m_Mo_pieces.2.1 2 = .ok (.lconst 0, 1) ∧ 2 + 1 = 3 := ⟨by decide +kernel, rfl⟩
theorem d_Mo_pieces_3 : decode m_Mo_pieces.2.1 3 = .ok (.lconst 1, 1) ∧ 3 + 1 = 4 := ⟨by decide +kernel, rfl⟩
theorem d_Mo_pieces_4 : decode m_Mo_pieces.2.1 4 = .ok (.invokestatic 80, 3) ∧ 4 + 3 = 7 := ⟨by decide +kernel, rfl⟩
theorem d_Mo_pieces_7 : decode m_Mo_pieces.2.1 7 = .ok (.ifCond .eq 10, 3) ∧ 7 + 3 = 10 ∧ (((7 : Nat) : Int) + (10) = ((17 : Nat) : Int)) := ⟨by decide +kernel, rfl, by decide⟩
theorem d_Mo_pieces_10 : decode m_Mo_pieces.2.1 10 = .ok (.iload_n 2, 1) ∧ 10 + 1 = 11 := ⟨by decide +kernel, rfl⟩
theorem d_Mo_pieces_11 : decode m_Mo_pieces.2.1 11 = .ok (.invokestatic 254, 3) ∧ 11 + 3 = 14 := ⟨by decide +kernel, rfl⟩
theorem d_Mo_pieces_14 : decode m_Mo_pieces.2.1 14 = .ok (.ifCond .ne 6, 3) ∧ 14 + 3 = 17 ∧ (((14 : Nat) : Int) + (6) = ((20 : Nat) : Int)) := ⟨by decide +kernel, rfl, by decide⟩
theorem d_Mo_pieces_17 : decode m_Mo_pieces.2.1 17 = .ok (.bipush (-102), 2) ∧ 17 + 2 = 19 ∧ (Int8.ofInt (-102)).toInt32 = Int32.ofInt (-102) := ⟨by decide +kernel, rfl, by decide +kernel⟩
theorem d_Mo_pieces_19 : decode m_Mo_pieces.2.1 19 = .ok (.ireturn, 1) := by decide +kernel
theorem d_Mo_pieces_20 : decode m_Mo_pieces.2.1 20 = .ok (.aload_n 0, 1) ∧ 20 + 1 = 21 := ⟨by decide +kernel, rfl⟩
theorem d_Mo_pieces_21 : decode m_Mo_pieces.2.1 21 = .ok (.invokevirtual 213, 3) ∧ 21 + 3 = 24 := ⟨by decide +kernel, rfl⟩
theorem d_Mo_pieces_24 : decode m_Mo_pieces.2.1 24 = .ok (.ifCond .eq 8, 3) ∧ 24 + 3 = 27 ∧ (((24 : Nat) : Int) + (8) = ((32 : Nat) : Int)) := ⟨by decide +kernel, rfl, by decide⟩
theorem d_Mo_pieces_27 : decode m_Mo_pieces.2.1 27 = .ok (.bipush (-103), 2) ∧ 27 + 2 = 29 ∧ (Int8.ofInt (-103)).toInt32 = Int32.ofInt (-103) := ⟨by decide +kernel, rfl, by decide +kernel⟩
theorem d_Mo_pieces_29 : decode m_Mo_pieces.2.1 29 = .ok (.goto 9, 3) ∧ (((29 : Nat) : Int) + (9) = ((38 : Nat) : Int)) := ⟨by decide +kernel, by decide⟩
theorem d_Mo_pieces_32 : decode m_Mo_pieces.2.1 32 = .ok (.aload_n 0, 1) ∧ 32 + 1 = 33 := ⟨by decide +kernel, rfl⟩
theorem d_Mo_pieces_33 : decode m_Mo_pieces.2.1 33 = .ok (.iload_n 1, 1) ∧ 33 + 1 = 34 := ⟨by decide +kernel, rfl⟩
theorem d_Mo_pieces_34 : decode m_Mo_pieces.2.1 34 = .ok (.iload_n 2, 1) ∧ 34 + 1 = 35 := ⟨by decide +kernel, rfl⟩
theorem d_Mo_pieces_35 : decode m_Mo_pieces.2.1 35 = .ok (.invokevirtual 269, 3) ∧ 35 + 3 = 38 := ⟨by decide +kernel, rfl⟩
theorem d_Mo_pieces_38 : decode m_Mo_pieces.2.1 38 = .ok (.ireturn, 1) := by decide +kernel
theorem d_Mo_loose_0 : decode m_Mo_loose.2.1 0 = .ok (.aload_n 0, 1) ∧ 0 + 1 = 1 := ⟨by decide +kernel, rfl⟩
theorem d_Mo_loose_1 : decode m_Mo_loose.2.1 1 = .ok (.invokevirtual 213, 3) ∧ 1 + 3 = 4 := ⟨by decide +kernel, rfl⟩
theorem d_Mo_loose_4 : decode m_Mo_loose.2.1 4 = .ok (.ifCond .eq 6, 3) ∧ 4 + 3 = 7 ∧ (((4 : Nat) : Int) + (6) = ((10 : Nat) : Int)) := ⟨by decide +kernel, rfl, by decide⟩
theorem d_Mo_loose_7 : decode m_Mo_loose.2.1 7 = .ok (.bipush (-103), 2) ∧ 7 + 2 = 9 ∧ (Int8.ofInt (-103)).toInt32 = Int32.ofInt (-103) := ⟨by decide +kernel, rfl, by decide +kernel⟩
theorem d_Mo_loose_9 : decode m_Mo_loose.2.1 9 = .ok (.ireturn, 1) := by decide +kernel
theorem d_Mo_loose_10 : decode m_Mo_loose.2.1 10 = .ok (.iconst (-1), 1) ∧ 10 + 1 = 11 := ⟨by decide +kernel, rfl⟩
theorem d_Mo_loose_11 : decode m_Mo_loose.2.1 11 = .ok (.istore_n 1, 1) ∧ 11 + 1 = 12 := ⟨by decide +kernel, rfl⟩
theorem d_Mo_loose_12 : decode m_Mo_loose.2.1 12 = .ok (.iconst 0, 1) ∧ 12 + 1 = 13 := ⟨by decide +kernel, rfl⟩
theorem d_Mo_loose_13 : decode m_Mo_loose.2.1 13 = .ok (.istore_n 2, 1) ∧ 13 + 1 = 14 := ⟨by decide +kernel, rfl⟩
theorem d_Mo_loose_14 : decode m_Mo_loose.2.1 14 = .ok (.iconst 0, 1) ∧ 14 + 1 = 15 := ⟨by decide +kernel, rfl⟩
theorem d_Mo_loose_15 : decode m_Mo_loose.2.1 15 = .ok (.istore_n 3, 1) ∧ 15 + 1 = 16 := ⟨by decide +kernel, rfl⟩
theorem d_Mo_loose_16 : decode m_Mo_loose.2.1 16 = .ok (.iload_n 3, 1) ∧ 16 + 1 = 17 := ⟨by decide +kernel, rfl⟩
theorem d_Mo_loose_17 : decode m_Mo_loose.2.1 17 = .ok (.aload_n 0, 1) ∧ 17 + 1 = 18 := ⟨by decide +kernel, rfl⟩
theorem d_Mo_loose_18 : decode m_Mo_loose.2.1 18 = .ok (.getfield 103, 3) ∧ 18 + 3 = 21 := ⟨by decide +kernel, rfl⟩
theorem d_Mo_loose_21 : decode m_Mo_loose.2.1 21 = .ok (.if_icmp .ge 55, 3) ∧ 21 + 3 = 24 ∧ (((21 : Nat) : Int) + (55) = ((76 : Nat) : Int)) := ⟨by decide +kernel, rfl, by decide⟩
theorem d_Mo_loose_24 : decode m_Mo_loose.2.1 24 = .ok (.aload_n 0, 1) ∧ 24 + 1 = 25 := ⟨by decide +kernel, rfl⟩
theorem d_Mo_loose_25 : decode m_Mo_loose.2.1 25 = .ok (.getfield 103, 3) ∧ 25 + 3 = 28 := ⟨by decide +kernel, rfl⟩
theorem d_Mo_loose_28 : decode m_Mo_loose.2.1 28 = .ok (.iconst 1, 1) ∧ 28 + 1 = 29 := ⟨by decide +kernel, rfl⟩
theorem d_Mo_loose_29 : decode m_Mo_loose.2.1 29 = .ok (.if_icmp .le 47, 3) ∧ 29 + 3 = 32 ∧ (((29 : Nat) : Int) + (47) = ((76 : Nat) : Int)) := ⟨by decide +kernel, rfl, by decide⟩
theorem d_Mo_loose_32 : decode m_Mo_loose.2.1 32 = .ok (.aload_n 0, 1) ∧ 32 + 1 = 33 := ⟨by decide +kernel, rfl⟩
theorem d_Mo_loose_33 : decode m_Mo_loose.2.1 33 = .ok (.iload_n 3, 1) ∧ 33 + 1 = 34 := ⟨by decide +kernel, rfl⟩
theorem d_Mo_loose_34 : decode m_Mo_loose.2.1 34 = .ok (.invokevirtual 207, 3) ∧ 34 + 3 = 37 := ⟨by decide +kernel, rfl⟩
theorem d_Mo_loose_37 : decode m_Mo_loose.2.1 37 = .ok (.iload_n 1, 1) ∧ 37 + 1 = 38 := ⟨by decide +kernel, rfl⟩
theorem d_Mo_loose_38 : decode m_Mo_loose.2.1 38 = .ok (.iconst (-1), 1) ∧ 38 + 1 = 39 := ⟨by decide +kernel, rfl⟩
theorem d_Mo_loose_39 : decode m_Mo_loose.2.1 39 = .ok (.if_icmp .eq 11, 3) ∧ 39 + 3 = 42 ∧ (((39 : Nat) : Int) + (11) = ((50 : Nat) : Int)) := ⟨by decide +kernel, rfl, by decide⟩
theorem d_Mo_loose_42 : decode m_Mo_loose.2.1 42 = .ok (.aload_n 0, 1) ∧ 42 + 1 = 43 := ⟨by decide +kernel, rfl⟩
theorem d_Mo_loose_43 : decode m_Mo_loose.2.1 43 = .ok (.invokevirtual 272, 3) ∧ 43 + 3 = 46 := ⟨by decide +kernel, rfl⟩
theorem d_Mo_loose_46 : decode m_Mo_loose.2.1 46 = .ok (.iload_n 2, 1) ∧ 46 + 1 = 47 := ⟨by decide +kernel, rfl⟩
theorem d_Mo_loose_47 : decode m_Mo_loose.2.1 47 = .ok (.if_icmp .ge 7, 3) ∧ 47 + 3 = 50 ∧ (((47 : Nat) : Int) + (7) = ((54 : Nat) : Int)) := ⟨by decide +kernel, rfl, by decide⟩
theorem d_Mo_loose_50 : decode m_Mo_loose.2.1 50 = .ok (.iload_n 3, 1) ∧ 50 + 1 = 51 := ⟨by decide +kernel, rfl⟩
theorem d_Mo_loose_51 : decode m_Mo_loose.2.1 51 = .ok (.goto 4, 3) ∧ (((51 : Nat) : Int) + (4) = ((55 : Nat) : Int)) := ⟨by decide +kernel, by decide⟩
theorem d_Mo_loose_54 : decode m_Mo_loose.2.1 54 = .ok (.iload_n 1, 1) ∧ 54 + 1 = 55 := ⟨by decide +kernel, rfl⟩
theorem d_Mo_loose_55 : decode m_Mo_loose.2.1 55 = .ok (.istore_n 1, 1) ∧ 55 + 1 = 56 := ⟨by decide +kernel, rfl⟩
theorem d_Mo_loose_56 : decode m_Mo_loose.2.1 56 = .ok (.iload_n 1, 1) ∧ 56 + 1 = 57 := ⟨by decide +kernel, rfl⟩
theorem d_Mo_loose_57 : decode m_Mo_loose.2.1 57 = .ok (.iload_n 3, 1) ∧ 57 + 1 = 58 := ⟨by decide +kernel, rfl⟩
theorem d_Mo_loose_58 : decode m_Mo_loose.2.1 58 = .ok (.if_icmp .ne 10, 3) ∧ 58 + 3 = 61 ∧ (((58 : Nat) : Int) + (10) = ((68 : Nat) : Int)) := ⟨by decide +kernel, rfl, by decide⟩
theorem d_Mo_loose_61 : decode m_Mo_loose.2.1 61 = .ok (.aload_n 0, 1) ∧ 61 + 1 = 62 := ⟨by decide +kernel, rfl⟩
theorem d_Mo_loose_62 : decode m_Mo_loose.2.1 62 = .ok (.invokevirtual 272, 3) ∧ 62 + 3 = 65 := ⟨by decide +kernel, rfl⟩
theorem d_Mo_loose_65 : decode m_Mo_loose.2.1 65 = .ok (.goto 4, 3) ∧ (((65 : Nat) : Int) + (4) = ((69 : Nat) : Int)) := ⟨by decide +kernel, by decide⟩
theorem d_Mo_loose_68 : decode m_Mo_loose.2.1 68 = .ok (.iload_n 2, 1) ∧ 68 + 1 = 69 := ⟨by decide +kernel, rfl⟩
theorem d_Mo_loose_69 : decode m_Mo_loose.2.1 69 = .ok (.istore_n 2, 1) ∧ 69 + 1 = 70 := ⟨by decide +kernel, rfl⟩
theorem d_Mo_loose_70 : decode m_Mo_loose.2.1 70 = .ok (.iinc 3 1, 3) ∧ 70 + 3 = 73 := ⟨by decide +kernel, rfl⟩
theorem d_Mo_loose_73 : decode m_Mo_loose.2.1 73 = .ok (.goto (-57), 3) ∧ (((73 : Nat) : Int) + (-57) = ((16 : Nat) : Int)) := ⟨by decide +kernel, by decide⟩
theorem d_Mo_loose_76 : decode m_Mo_loose.2.1 76 = .ok (.aload_n 0, 1) ∧ 76 + 1 = 77 := ⟨by decide +kernel, rfl⟩
theorem d_Mo_loose_77 : decode m_Mo_loose.2.1 77 = .ok (.iconst 1, 1) ∧ 77 + 1 = 78 := ⟨by decide +kernel, rfl⟩
theorem d_Mo_loose_78 : decode m_Mo_loose.2.1 78 = .ok (.putfield 119, 3) ∧ 78 + 3 = 81 := ⟨by decide +kernel, rfl⟩
theorem d_Mo_loose_81 : decode m_Mo_loose.2.1 81 = .ok (.iload_n 1, 1) ∧ 81 + 1 = 82 := ⟨by decide +kernel, rfl⟩
theorem d_Mo_loose_82 : decode m_Mo_loose.2.1 82 = .ok (.ireturn, 1) := by decide +kernel
theorem d_Mo_tellCurve_0 : decode m_Mo_tellCurve.2.1 0 = .ok (.iload_n 2, 1) ∧ 0 + 1 = 1 := ⟨by decide +kernel, rfl⟩
theorem d_Mo_tellCurve_1 : decode m_Mo_tellCurve.2.1 1 = .ok (.tableswitch 85 0 5 #[39, 46, 56, 66, 73, 79], 39) := by decide +kernel
theorem d_Mo_tellCurve_40 : decode m_Mo_tellCurve.2.1 40 = .ok (.aload_n 0, 1) ∧ 40 + 1 = 41 := ⟨by decide +kernel, rfl⟩
theorem d_Mo_tellCurve_41 : decode m_Mo_tellCurve.2.1 41 = .ok (.getfield 13, 3) ∧ 41 + 3 = 44 := ⟨by decide +kernel, rfl⟩
theorem d_Mo_tellCurve_44 : decode m_Mo_tellCurve.2.1 44 = .ok (.iload_n 1, 1) ∧ 44 + 1 = 45 := ⟨by decide +kernel, rfl⟩
theorem d_Mo_tellCurve_45 : decode m_Mo_tellCurve.2.1 45 = .ok (.iaload, 1) ∧ 45 + 1 = 46 := ⟨by decide +kernel, rfl⟩
theorem d_Mo_tellCurve_46 : decode m_Mo_tellCurve.2.1 46 = .ok (.ireturn, 1) := by decide +kernel
theorem d_Mo_tellCurve_47 : decode m_Mo_tellCurve.2.1 47 = .ok (.bipush 9, 2) ∧ 47 + 2 = 49 ∧ (Int8.ofInt 9).toInt32 = Int32.ofInt 9 := ⟨by decide +kernel, rfl, by decide +kernel⟩
theorem d_Mo_tellCurve_49 : decode m_Mo_tellCurve.2.1 49 = .ok (.aload_n 0, 1) ∧ 49 + 1 = 50 := ⟨by decide +kernel, rfl⟩
theorem d_Mo_tellCurve_50 : decode m_Mo_tellCurve.2.1 50 = .ok (.getfield 16, 3) ∧ 50 + 3 = 53 := ⟨by decide +kernel, rfl⟩
theorem d_Mo_tellCurve_53 : decode m_Mo_tellCurve.2.1 53 = .ok (.iload_n 1, 1) ∧ 53 + 1 = 54 := ⟨by decide +kernel, rfl⟩
theorem d_Mo_tellCurve_54 : decode m_Mo_tellCurve.2.1 54 = .ok (.iaload, 1) ∧ 54 + 1 = 55 := ⟨by decide +kernel, rfl⟩
theorem d_Mo_tellCurve_55 : decode m_Mo_tellCurve.2.1 55 = .ok (.iadd, 1) ∧ 55 + 1 = 56 := ⟨by decide +kernel, rfl⟩
theorem d_Mo_tellCurve_56 : decode m_Mo_tellCurve.2.1 56 = .ok (.ireturn, 1) := by decide +kernel
theorem d_Mo_tellCurve_57 : decode m_Mo_tellCurve.2.1 57 = .ok (.bipush 9, 2) ∧ 57 + 2 = 59 ∧ (Int8.ofInt 9).toInt32 = Int32.ofInt 9 := ⟨by decide +kernel, rfl, by decide +kernel⟩
theorem d_Mo_tellCurve_59 : decode m_Mo_tellCurve.2.1 59 = .ok (.aload_n 0, 1) ∧ 59 + 1 = 60 := ⟨by decide +kernel, rfl⟩
theorem d_Mo_tellCurve_60 : decode m_Mo_tellCurve.2.1 60 = .ok (.getfield 19, 3) ∧ 60 + 3 = 63 := ⟨by decide +kernel, rfl⟩
theorem d_Mo_tellCurve_63 : decode m_Mo_tellCurve.2.1 63 = .ok (.iload_n 1, 1) ∧ 63 + 1 = 64 := ⟨by decide +kernel, rfl⟩
theorem d_Mo_tellCurve_64 : decode m_Mo_tellCurve.2.1 64 = .ok (.iaload, 1) ∧ 64 + 1 = 65 := ⟨by decide +kernel, rfl⟩
theorem d_Mo_tellCurve_65 : decode m_Mo_tellCurve.2.1 65 = .ok (.iadd, 1) ∧ 65 + 1 = 66 := ⟨by decide +kernel, rfl⟩
theorem d_Mo_tellCurve_66 : decode m_Mo_tellCurve.2.1 66 = .ok (.ireturn, 1) := by decide +kernel
theorem d_Mo_tellCurve_67 : decode m_Mo_tellCurve.2.1 67 = .ok (.aload_n 0, 1) ∧ 67 + 1 = 68 := ⟨by decide +kernel, rfl⟩
theorem d_Mo_tellCurve_68 : decode m_Mo_tellCurve.2.1 68 = .ok (.getfield 22, 3) ∧ 68 + 3 = 71 := ⟨by decide +kernel, rfl⟩
theorem d_Mo_tellCurve_71 : decode m_Mo_tellCurve.2.1 71 = .ok (.iload_n 1, 1) ∧ 71 + 1 = 72 := ⟨by decide +kernel, rfl⟩
theorem d_Mo_tellCurve_72 : decode m_Mo_tellCurve.2.1 72 = .ok (.iaload, 1) ∧ 72 + 1 = 73 := ⟨by decide +kernel, rfl⟩
theorem d_Mo_tellCurve_73 : decode m_Mo_tellCurve.2.1 73 = .ok (.ireturn, 1) := by decide +kernel
theorem d_Mo_tellCurve_74 : decode m_Mo_tellCurve.2.1 74 = .ok (.aload_n 0, 1) ∧ 74 + 1 = 75 := ⟨by decide +kernel, rfl⟩
theorem d_Mo_tellCurve_75 : decode m_Mo_tellCurve.2.1 75 = .ok (.iload_n 1, 1) ∧ 75 + 1 = 76 := ⟨by decide +kernel, rfl⟩
theorem d_Mo_tellCurve_76 : decode m_Mo_tellCurve.2.1 76 = .ok (.invokevirtual 275, 3) ∧ 76 + 3 = 79 := ⟨by decide +kernel, rfl⟩
theorem d_Mo_tellCurve_79 : decode m_Mo_tellCurve.2.1 79 = .ok (.ireturn, 1) := by decide +kernel
theorem d_Mo_tellCurve_80 : decode m_Mo_tellCurve.2.1 80 = .ok (.aload_n 0, 1) ∧ 80 + 1 = 81 := ⟨by decide +kernel, rfl⟩
theorem d_Mo_tellCurve_81 : decode m_Mo_tellCurve.2.1 81 = .ok (.iload_n 1, 1) ∧ 81 + 1 = 82 := ⟨by decide +kernel, rfl⟩
theorem d_Mo_tellCurve_82 : decode m_Mo_tellCurve.2.1 82 = .ok (.invokevirtual 278, 3) ∧ 82 + 3 = 85 := ⟨by decide +kernel, rfl⟩
theorem d_Mo_tellCurve_85 : decode m_Mo_tellCurve.2.1 85 = .ok (.ireturn, 1) := by decide +kernel
theorem d_Mo_tellCurve_86 : decode m_Mo_tellCurve.2.1 86 = .ok (.bipush (-102), 2) ∧ 86 + 2 = 88 ∧ (Int8.ofInt (-102)).toInt32 = Int32.ofInt (-102) := ⟨by decide +kernel, rfl, by decide +kernel⟩
theorem d_Mo_tellCurve_88 : decode m_Mo_tellCurve.2.1 88 = .ok (.ireturn, 1) := by decide +kernel
theorem d_Mo_curve_0 : decode m_Mo_curve.2.1 0 = .ok (.aload_n 0, 1) ∧ 0 + 1 = 1 := ⟨by decide +kernel, rfl⟩
theorem d_Mo_curve_1 : decode m_Mo_curve.2.1 1 = .ok (.iload_n 1, 1) ∧ 1 + 1 = 2 := ⟨by decide +kernel, rfl⟩
theorem d_Mo_curve_2 : decode m_Mo_curve.2.1 2 = .ok (.invokevirtual 227, 3) ∧ 2 + 3 = 5 := ⟨by decide +kernel, rfl⟩
theorem d_Mo_curve_5 : decode m_Mo_curve.2.1 5 = .ok (.ifCond .eq 12, 3) ∧ 5 + 3 = 8 ∧ (((5 : Nat) : Int) + (12) = ((17 : Nat) : Int)) := ⟨by decide +kernel, rfl, by decide⟩
theorem d_Mo_curve_8 : decode m_Mo_curve.2.1 8 = .ok (.aload_n 0, 1) ∧ 8 + 1 = 9 := ⟨by decide +kernel, rfl⟩
theorem d_Mo_curve_9 : decode m_Mo_curve.2.1 9 = .ok (.iload_n 1, 1) ∧ 9 + 1 = 10 := ⟨by decide +kernel, rfl⟩
theorem d_Mo_curve_10 : decode m_Mo_curve.2.1 10 = .ok (.iload_n 2, 1) ∧ 10 + 1 = 11 := ⟨by decide +kernel, rfl⟩
theorem d_Mo_curve_11 : decode m_Mo_curve.2.1 11 = .ok (.invokevirtual 281, 3) ∧ 11 + 3 = 14 := ⟨by decide +kernel, rfl⟩
theorem d_Mo_curve_14 : decode m_Mo_curve.2.1 14 = .ok (.goto 5, 3) ∧ (((14 : Nat) : Int) + (5) = ((19 : Nat) : Int)) := ⟨by decide +kernel, by decide⟩
theorem d_Mo_curve_17 : decode m_Mo_curve.2.1 17 = .ok (.bipush (-101), 2) ∧ 17 + 2 = 19 ∧ (Int8.ofInt (-101)).toInt32 = Int32.ofInt (-101) := ⟨by decide +kernel, rfl, by decide +kernel⟩
theorem d_Mo_curve_19 : decode m_Mo_curve.2.1 19 = .ok (.ireturn, 1) := by decide +kernel
theorem d_Mo_as_0 : decode m_Mo_as.2.1 0 = .ok (.aload_n 0, 1) ∧ 0 + 1 = 1 := ⟨by decide +kernel, rfl⟩
theorem d_Mo_as_1 : decode m_Mo_as.2.1 1 = .ok (.iload_n 1, 1) ∧ 1 + 1 = 2 := ⟨by decide +kernel, rfl⟩
theorem d_Mo_as_2 : decode m_Mo_as.2.1 2 = .ok (.invokevirtual 227, 3) ∧ 2 + 3 = 5 := ⟨by decide +kernel, rfl⟩
theorem d_Mo_as_5 : decode m_Mo_as.2.1 5 = .ok (.ifCond .ne 6, 3) ∧ 5 + 3 = 8 ∧ (((5 : Nat) : Int) + (6) = ((11 : Nat) : Int)) := ⟨by decide +kernel, rfl, by decide⟩
theorem d_Mo_as_8 : decode m_Mo_as.2.1 8 = .ok (.bipush (-101), 2) ∧ 8 + 2 = 10 ∧ (Int8.ofInt (-101)).toInt32 = Int32.ofInt (-101) := ⟨by decide +kernel, rfl, by decide +kernel⟩
theorem d_Mo_as_10 : decode m_Mo_as.2.1 10 = .ok (.ireturn, 1) := by decide +kernel
theorem d_Mo_as_11 : decode m_Mo_as.2.1 11 = .ok (.iload_n 2, 1) ∧ 11 + 1 = 12 := ⟨by decide +kernel, rfl⟩
theorem d_Mo_as_12 : decode m_Mo_as.2.1 12 = .ok (.i2l, 1) ∧ 12 + 1 = 13 := ⟨by decide +kernel, rfl⟩
theorem d_Mo_as_13 : decode m_Mo_as.2.1 13 = .ok (.lconst 0, 1) ∧ 13 + 1 = 14 := ⟨by decide +kernel, rfl⟩
theorem d_Mo_as_14 : decode m_Mo_as.2.1 14 = .ok (.ldc2_w 284, 3) ∧ 14 + 3 = 17 := ⟨by decide +kernel, rfl⟩
theorem d_Mo_as_17 : decode m_Mo_as.2.1 17 = .ok (.invokestatic 80, 3) ∧ 17 + 3 = 20 := ⟨by decide +kernel, rfl⟩
theorem d_Mo_as_20 : decode m_Mo_as.2.1 20 = .ok (.ifCond .ne 6, 3) ∧ 20 + 3 = 23 ∧ (((20 : Nat) : Int) + (6) = ((26 : Nat) : Int)) := ⟨by decide +kernel, rfl, by decide⟩
theorem d_Mo_as_23 : decode m_Mo_as.2.1 23 = .ok (.bipush (-102), 2) ∧ 23 + 2 = 25 ∧ (Int8.ofInt (-102)).toInt32 = Int32.ofInt (-102) := ⟨by decide +kernel, rfl, by decide +kernel⟩
theorem d_Mo_as_25 : decode m_Mo_as.2.1 25 = .ok (.ireturn, 1) := by decide +kernel
theorem d_Mo_as_26 : decode m_Mo_as.2.1 26 = .ok (.iload_n 2, 1) ∧ 26 + 1 = 27 := ⟨by decide +kernel, rfl⟩
theorem d_Mo_as_27 : decode m_Mo_as.2.1 27 = .ok (.ifCond .eq 28, 3) ∧ 27 + 3 = 30 ∧ (((27 : Nat) : Int) + (28) = ((55 : Nat) : Int)) := ⟨by decide +kernel, rfl, by decide⟩
theorem d_Mo_as_30 : decode m_Mo_as.2.1 30 = .ok (.iload_n 2, 1) ∧ 30 + 1 = 31 := ⟨by decide +kernel, rfl⟩
theorem d_Mo_as_31 : decode m_Mo_as.2.1 31 = .ok (.aload_n 0, 1) ∧ 31 + 1 = 32 := ⟨by decide +kernel, rfl⟩
theorem d_Mo_as_32 : decode m_Mo_as.2.1 32 = .ok (.getfield 13, 3) ∧ 32 + 3 = 35 := ⟨by decide +kernel, rfl⟩
theorem d_Mo_as_35 : decode m_Mo_as.2.1 35 = .ok (.iload_n 1, 1) ∧ 35 + 1 = 36 := ⟨by decide +kernel, rfl⟩
theorem d_Mo_as_36 : decode m_Mo_as.2.1 36 = .ok (.iaload, 1) ∧ 36 + 1 = 37 := ⟨by decide +kernel, rfl⟩
theorem d_Mo_as_37 : decode m_Mo_as.2.1 37 = .ok (.if_icmp .eq 18, 3) ∧ 37 + 3 = 40 ∧ (((37 : Nat) : Int) + (18) = ((55 : Nat) : Int)) := ⟨by decide +kernel, rfl, by decide⟩
theorem d_Mo_as_40 : decode m_Mo_as.2.1 40 = .ok (.iload_n 2, 1) ∧ 40 + 1 = 41 := ⟨by decide +kernel, rfl⟩
theorem d_Mo_as_41 : decode m_Mo_as.2.1 41 = .ok (.iconst 1, 1) ∧ 41 + 1 = 42 := ⟨by decide +kernel, rfl⟩
theorem d_Mo_as_42 : decode m_Mo_as.2.1 42 = .ok (.if_icmp .ne 17, 3) ∧ 42 + 3 = 45 ∧ (((42 : Nat) : Int) + (17) = ((59 : Nat) : Int)) := ⟨by decide +kernel, rfl, by decide⟩
theorem d_Mo_as_45 : decode m_Mo_as.2.1 45 = .ok (.aload_n 0, 1) ∧ 45 + 1 = 46 := ⟨by decide +kernel, rfl⟩
theorem d_Mo_as_46 : decode m_Mo_as.2.1 46 = .ok (.getfield 13, 3) ∧ 46 + 3 = 49 := ⟨by decide +kernel, rfl⟩
theorem d_Mo_as_49 : decode m_Mo_as.2.1 49 = .ok (.iload_n 1, 1) ∧ 49 + 1 = 50 := ⟨by decide +kernel, rfl⟩
theorem d_Mo_as_50 : decode m_Mo_as.2.1 50 = .ok (.iaload, 1) ∧ 50 + 1 = 51 := ⟨by decide +kernel, rfl⟩
theorem d_Mo_as_51 : decode m_Mo_as.2.1 51 = .ok (.iconst 2, 1) ∧ 51 + 1 = 52 := ⟨by decide +kernel, rfl⟩
theorem d_Mo_as_52 : decode m_Mo_as.2.1 52 = .ok (.if_icmp .ne 7, 3) ∧ 52 + 3 = 55 ∧ (((52 : Nat) : Int) + (7) = ((59 : Nat) : Int)) := ⟨by decide +kernel, rfl, by decide⟩
theorem d_Mo_as_55 : decode m_Mo_as.2.1 55 = .ok (.iconst 1, 1) ∧ 55 + 1 = 56 := ⟨by decide +kernel, rfl⟩
theorem d_Mo_as_56 : decode m_Mo_as.2.1 56 = .ok (.goto 4, 3) ∧ (((56 : Nat) : Int) + (4) = ((60 : Nat) : Int)) := ⟨by decide +kernel, by decide⟩
theorem d_Mo_as_59 : decode m_Mo_as.2.1 59 = .ok (.iconst 0, 1) ∧ 59 + 1 = 60 := ⟨by decide +kernel, rfl⟩
theorem d_Mo_as_60 : decode m_Mo_as.2.1 60 = .ok (.istore_n 3, 1) ∧ 60 + 1 = 61 := ⟨by decide +kernel, rfl⟩
theorem d_Mo_as_61 : decode m_Mo_as.2.1 61 = .ok (.iload_n 3, 1) ∧ 61 + 1 = 62 := ⟨by decide +kernel, rfl⟩
theorem d_Mo_as_62 : decode m_Mo_as.2.1 62 = .ok (.ifCond .eq 7, 3) ∧ 62 + 3 = 65 ∧ (((62 : Nat) : Int) + (7) = ((69 : Nat) : Int)) := ⟨by decide +kernel, rfl, by decide⟩
theorem d_Mo_as_65 : decode m_Mo_as.2.1 65 = .ok (.iload_n 1, 1) ∧ 65 + 1 = 66 := ⟨by decide +kernel, rfl⟩
theorem d_Mo_as_66 : decode m_Mo_as.2.1 66 = .ok (.goto 4, 3) ∧ (((66 : Nat) : Int) + (4) = ((70 : Nat) : Int)) := ⟨by decide +kernel, by decide⟩
theorem d_Mo_as_69 : decode m_Mo_as.2.1 69 = .ok (.iconst (-1), 1) ∧ 69 + 1 = 70 := ⟨by decide +kernel, rfl⟩
theorem d_Mo_as_70 : decode m_Mo_as.2.1 70 = .ok (.ireturn, 1) := by decide +kernel
theorem d_Mo_meeting_0 : decode m_Mo_meeting.2.1 0 = .ok (.iconst 0, 1) ∧ 0 + 1 = 1 := ⟨by decide +kernel, rfl⟩
theorem d_Mo_meeting_1 : decode m_Mo_meeting.2.1 1 = .ok (.istore_n 2, 1) ∧ 1 + 1 = 2 := ⟨by decide +kernel, rfl⟩
theorem d_Mo_meeting_2 : decode m_Mo_meeting.2.1 2 = .ok (.iconst 0, 1) ∧ 2 + 1 = 3 := ⟨by decide +kernel, rfl⟩
theorem d_Mo_meeting_3 : decode m_Mo_meeting.2.1 3 = .ok (.istore_n 3, 1) ∧ 3 + 1 = 4 := ⟨by decide +kernel, rfl⟩
theorem d_Mo_meeting_4 : decode m_Mo_meeting.2.1 4 = .ok (.iload_n 3, 1) ∧ 4 + 1 = 5 := ⟨by decide +kernel, rfl⟩
theorem d_Mo_meeting_5 : decode m_Mo_meeting.2.1 5 = .ok (.aload_n 0, 1) ∧ 5 + 1 = 6 := ⟨by decide +kernel, rfl⟩
theorem d_Mo_meeting_6 : decode m_Mo_meeting.2.1 6 = .ok (.getfield 103, 3) ∧ 6 + 3 = 9 := ⟨by decide +kernel, rfl⟩
theorem d_Mo_meeting_9 : decode m_Mo_meeting.2.1 9 = .ok (.if_icmp .ge 70, 3) ∧ 9 + 3 = 12 ∧ (((9 : Nat) : Int) + (70) = ((79 : Nat) : Int)) := ⟨by decide +kernel, rfl, by decide⟩
theorem d_Mo_meeting_12 : decode m_Mo_meeting.2.1 12 = .ok (.iconst 0, 1) ∧ 12 + 1 = 13 := ⟨by decide +kernel, rfl⟩
theorem d_Mo_meeting_13 : decode m_Mo_meeting.2.1 13 = .ok (.istore 4, 2) ∧ 13 + 2 = 15 := ⟨by decide +kernel, rfl⟩
theorem d_Mo_meeting_15 : decode m_Mo_meeting.2.1 15 = .ok (.iload 4, 2) ∧ 15 + 2 = 17 := ⟨by decide +kernel, rfl⟩
theorem d_Mo_meeting_17 : decode m_Mo_meeting.2.1 17 = .ok (.iload_n 3, 1) ∧ 17 + 1 = 18 := ⟨by decide +kernel, rfl⟩
theorem d_Mo_meeting_18 : decode m_Mo_meeting.2.1 18 = .ok (.if_icmp .ge 55, 3) ∧ 18 + 3 = 21 ∧ (((18 : Nat) : Int) + (55) = ((73 : Nat) : Int)) := ⟨by decide +kernel, rfl, by decide⟩
theorem d_Mo_meeting_21 : decode m_Mo_meeting.2.1 21 = .ok (.iload_n 2, 1) ∧ 21 + 1 = 22 := ⟨by decide +kernel, rfl⟩
theorem d_Mo_meeting_22 : decode m_Mo_meeting.2.1 22 = .ok (.aload_n 0, 1) ∧ 22 + 1 = 23 := ⟨by decide +kernel, rfl⟩
theorem d_Mo_meeting_23 : decode m_Mo_meeting.2.1 23 = .ok (.iload_n 3, 1) ∧ 23 + 1 = 24 := ⟨by decide +kernel, rfl⟩
theorem d_Mo_meeting_24 : decode m_Mo_meeting.2.1 24 = .ok (.invokevirtual 173, 3) ∧ 24 + 3 = 27 := ⟨by decide +kernel, rfl⟩
theorem d_Mo_meeting_27 : decode m_Mo_meeting.2.1 27 = .ok (.ifCond .ne 37, 3) ∧ 27 + 3 = 30 ∧ (((27 : Nat) : Int) + (37) = ((64 : Nat) : Int)) := ⟨by decide +kernel, rfl, by decide⟩
theorem d_Mo_meeting_30 : decode m_Mo_meeting.2.1 30 = .ok (.aload_n 0, 1) ∧ 30 + 1 = 31 := ⟨by decide +kernel, rfl⟩
theorem d_Mo_meeting_31 : decode m_Mo_meeting.2.1 31 = .ok (.iload 4, 2) ∧ 31 + 2 = 33 := ⟨by decide +kernel, rfl⟩
theorem d_Mo_meeting_33 : decode m_Mo_meeting.2.1 33 = .ok (.invokevirtual 173, 3) ∧ 33 + 3 = 36 := ⟨by decide +kernel, rfl⟩
theorem d_Mo_meeting_36 : decode m_Mo_meeting.2.1 36 = .ok (.ifCond .ne 28, 3) ∧ 36 + 3 = 39 ∧ (((36 : Nat) : Int) + (28) = ((64 : Nat) : Int)) := ⟨by decide +kernel, rfl, by decide⟩
theorem d_Mo_meeting_39 : decode m_Mo_meeting.2.1 39 = .ok (.aload_n 0, 1) ∧ 39 + 1 = 40 := ⟨by decide +kernel, rfl⟩
theorem d_Mo_meeting_40 : decode m_Mo_meeting.2.1 40 = .ok (.iload_n 3, 1) ∧ 40 + 1 = 41 := ⟨by decide +kernel, rfl⟩
theorem d_Mo_meeting_41 : decode m_Mo_meeting.2.1 41 = .ok (.iload 4, 2) ∧ 41 + 2 = 43 := ⟨by decide +kernel, rfl⟩
theorem d_Mo_meeting_43 : decode m_Mo_meeting.2.1 43 = .ok (.invokevirtual 286, 3) ∧ 43 + 3 = 46 := ⟨by decide +kernel, rfl⟩
theorem d_Mo_meeting_46 : decode m_Mo_meeting.2.1 46 = .ok (.ifCond .ne 18, 3) ∧ 46 + 3 = 49 ∧ (((46 : Nat) : Int) + (18) = ((64 : Nat) : Int)) := ⟨by decide +kernel, rfl, by decide⟩
theorem d_Mo_meeting_49 : decode m_Mo_meeting.2.1 49 = .ok (.aload_n 0, 1) ∧ 49 + 1 = 50 := ⟨by decide +kernel, rfl⟩
theorem d_Mo_meeting_50 : decode m_Mo_meeting.2.1 50 = .ok (.iload_n 3, 1) ∧ 50 + 1 = 51 := ⟨by decide +kernel, rfl⟩
theorem d_Mo_meeting_51 : decode m_Mo_meeting.2.1 51 = .ok (.iload 4, 2) ∧ 51 + 2 = 53 := ⟨by decide +kernel, rfl⟩
theorem d_Mo_meeting_53 : decode m_Mo_meeting.2.1 53 = .ok (.iload_n 1, 1) ∧ 53 + 1 = 54 := ⟨by decide +kernel, rfl⟩
theorem d_Mo_meeting_54 : decode m_Mo_meeting.2.1 54 = .ok (.invokevirtual 190, 3) ∧ 54 + 3 = 57 := ⟨by decide +kernel, rfl⟩
theorem d_Mo_meeting_57 : decode m_Mo_meeting.2.1 57 = .ok (.ifCond .ne 7, 3) ∧ 57 + 3 = 60 ∧ (((57 : Nat) : Int) + (7) = ((64 : Nat) : Int)) := ⟨by decide +kernel, rfl, by decide⟩
theorem d_Mo_meeting_60 : decode m_Mo_meeting.2.1 60 = .ok (.iconst 1, 1) ∧ 60 + 1 = 61 := ⟨by decide +kernel, rfl⟩
theorem d_Mo_meeting_61 : decode m_Mo_meeting.2.1 61 = .ok (.goto 4, 3) ∧ (((61 : Nat) : Int) + (4) = ((65 : Nat) : Int)) := ⟨by decide +kernel, by decide⟩
theorem d_Mo_meeting_64 : decode m_Mo_meeting.2.1 64 = .ok (.iconst 0, 1) ∧ 64 + 1 = 65 := ⟨by decide +kernel, rfl⟩
theorem d_Mo_meeting_65 : decode m_Mo_meeting.2.1 65 = .ok (.iadd, 1) ∧ 65 + 1 = 66 := ⟨by decide +kernel, rfl⟩
theorem d_Mo_meeting_66 : decode m_Mo_meeting.2.1 66 = .ok (.istore_n 2, 1) ∧ 66 + 1 = 67 := ⟨by decide +kernel, rfl⟩
theorem d_Mo_meeting_67 : decode m_Mo_meeting.2.1 67 = .ok (.iinc 4 1, 3) ∧ 67 + 3 = 70 := ⟨by decide +kernel, rfl⟩
theorem d_Mo_meeting_70 : decode m_Mo_meeting.2.1 70 = .ok (.goto (-55), 3) ∧ (((70 : Nat) : Int) + (-55) = ((15 : Nat) : Int)) := ⟨by decide +kernel, by decide⟩
theorem d_Mo_meeting_73 : decode m_Mo_meeting.2.1 73 = .ok (.iinc 3 1, 3) ∧ 73 + 3 = 76 := ⟨by decide +kernel, rfl⟩
theorem d_Mo_meeting_76 : decode m_Mo_meeting.2.1 76 = .ok (.goto (-72), 3) ∧ (((76 : Nat) : Int) + (-72) = ((4 : Nat) : Int)) := ⟨by decide +kernel, by decide⟩
theorem d_Mo_meeting_79 : decode m_Mo_meeting.2.1 79 = .ok (.iload_n 2, 1) ∧ 79 + 1 = 80 := ⟨by decide +kernel, rfl⟩
theorem d_Mo_meeting_80 : decode m_Mo_meeting.2.1 80 = .ok (.ireturn, 1) := by decide +kernel
theorem d_Mo_standing_0 : decode m_Mo_standing.2.1 0 = .ok (.iconst 0, 1) ∧ 0 + 1 = 1 := ⟨by decide +kernel, rfl⟩
theorem d_Mo_standing_1 : decode m_Mo_standing.2.1 1 = .ok (.istore_n 2, 1) ∧ 1 + 1 = 2 := ⟨by decide +kernel, rfl⟩
theorem d_Mo_standing_2 : decode m_Mo_standing.2.1 2 = .ok (.iconst 0, 1) ∧ 2 + 1 = 3 := ⟨by decide +kernel, rfl⟩
theorem d_Mo_standing_3 : decode m_Mo_standing.2.1 3 = .ok (.istore_n 3, 1) ∧ 3 + 1 = 4 := ⟨by decide +kernel, rfl⟩
theorem d_Mo_standing_4 : decode m_Mo_standing.2.1 4 = .ok (.iload_n 3, 1) ∧ 4 + 1 = 5 := ⟨by decide +kernel, rfl⟩
theorem d_Mo_standing_5 : decode m_Mo_standing.2.1 5 = .ok (.aload_n 0, 1) ∧ 5 + 1 = 6 := ⟨by decide +kernel, rfl⟩
theorem d_Mo_standing_6 : decode m_Mo_standing.2.1 6 = .ok (.getfield 103, 3) ∧ 6 + 3 = 9 := ⟨by decide +kernel, rfl⟩
theorem d_Mo_standing_9 : decode m_Mo_standing.2.1 9 = .ok (.if_icmp .ge 41, 3) ∧ 9 + 3 = 12 ∧ (((9 : Nat) : Int) + (41) = ((50 : Nat) : Int)) := ⟨by decide +kernel, rfl, by decide⟩
theorem d_Mo_standing_12 : decode m_Mo_standing.2.1 12 = .ok (.iload_n 2, 1) ∧ 12 + 1 = 13 := ⟨by decide +kernel, rfl⟩
theorem d_Mo_standing_13 : decode m_Mo_standing.2.1 13 = .ok (.aload_n 0, 1) ∧ 13 + 1 = 14 := ⟨by decide +kernel, rfl⟩
theorem d_Mo_standing_14 : decode m_Mo_standing.2.1 14 = .ok (.iload_n 3, 1) ∧ 14 + 1 = 15 := ⟨by decide +kernel, rfl⟩
theorem d_Mo_standing_15 : decode m_Mo_standing.2.1 15 = .ok (.invokevirtual 173, 3) ∧ 15 + 3 = 18 := ⟨by decide +kernel, rfl⟩
theorem d_Mo_standing_18 : decode m_Mo_standing.2.1 18 = .ok (.ifCond .eq 23, 3) ∧ 18 + 3 = 21 ∧ (((18 : Nat) : Int) + (23) = ((41 : Nat) : Int)) := ⟨by decide +kernel, rfl, by decide⟩
theorem d_Mo_standing_21 : decode m_Mo_standing.2.1 21 = .ok (.aload_n 0, 1) ∧ 21 + 1 = 22 := ⟨by decide +kernel, rfl⟩
theorem d_Mo_standing_22 : decode m_Mo_standing.2.1 22 = .ok (.iload_n 1, 1) ∧ 22 + 1 = 23 := ⟨by decide +kernel, rfl⟩
theorem d_Mo_standing_23 : decode m_Mo_standing.2.1 23 = .ok (.aload_n 0, 1) ∧ 23 + 1 = 24 := ⟨by decide +kernel, rfl⟩
theorem d_Mo_standing_24 : decode m_Mo_standing.2.1 24 = .ok (.getfield 19, 3) ∧ 24 + 3 = 27 := ⟨by decide +kernel, rfl⟩
theorem d_Mo_standing_27 : decode m_Mo_standing.2.1 27 = .ok (.iload_n 3, 1) ∧ 27 + 1 = 28 := ⟨by decide +kernel, rfl⟩
theorem d_Mo_standing_28 : decode m_Mo_standing.2.1 28 = .ok (.iaload, 1) ∧ 28 + 1 = 29 := ⟨by decide +kernel, rfl⟩
theorem d_Mo_standing_29 : decode m_Mo_standing.2.1 29 = .ok (.i2l, 1) ∧ 29 + 1 = 30 := ⟨by decide +kernel, rfl⟩
theorem d_Mo_standing_30 : decode m_Mo_standing.2.1 30 = .ok (.lconst 1, 1) ∧ 30 + 1 = 31 := ⟨by decide +kernel, rfl⟩
theorem d_Mo_standing_31 : decode m_Mo_standing.2.1 31 = .ok (.invokevirtual 152, 3) ∧ 31 + 3 = 34 := ⟨by decide +kernel, rfl⟩
theorem d_Mo_standing_34 : decode m_Mo_standing.2.1 34 = .ok (.ifCond .ne 7, 3) ∧ 34 + 3 = 37 ∧ (((34 : Nat) : Int) + (7) = ((41 : Nat) : Int)) := ⟨by decide +kernel, rfl, by decide⟩
theorem d_Mo_standing_37 : decode m_Mo_standing.2.1 37 = .ok (.iconst 1, 1) ∧ 37 + 1 = 38 := ⟨by decide +kernel, rfl⟩
theorem d_Mo_standing_38 : decode m_Mo_standing.2.1 38 = .ok (.goto 4, 3) ∧ (((38 : Nat) : Int) + (4) = ((42 : Nat) : Int)) := ⟨by decide +kernel, by decide⟩
theorem d_Mo_standing_41 : decode m_Mo_standing.2.1 41 = .ok (.iconst 0, 1) ∧ 41 + 1 = 42 := ⟨by decide +kernel, rfl⟩
theorem d_Mo_standing_42 : decode m_Mo_standing.2.1 42 = .ok (.iadd, 1) ∧ 42 + 1 = 43 := ⟨by decide +kernel, rfl⟩
theorem d_Mo_standing_43 : decode m_Mo_standing.2.1 43 = .ok (.istore_n 2, 1) ∧ 43 + 1 = 44 := ⟨by decide +kernel, rfl⟩
theorem d_Mo_standing_44 : decode m_Mo_standing.2.1 44 = .ok (.iinc 3 1, 3) ∧ 44 + 3 = 47 := ⟨by decide +kernel, rfl⟩
theorem d_Mo_standing_47 : decode m_Mo_standing.2.1 47 = .ok (.goto (-43), 3) ∧ (((47 : Nat) : Int) + (-43) = ((4 : Nat) : Int)) := ⟨by decide +kernel, by decide⟩
theorem d_Mo_standing_50 : decode m_Mo_standing.2.1 50 = .ok (.iload_n 2, 1) ∧ 50 + 1 = 51 := ⟨by decide +kernel, rfl⟩
theorem d_Mo_standing_51 : decode m_Mo_standing.2.1 51 = .ok (.ireturn, 1) := by decide +kernel
theorem d_Mo_tellPoint_0 : decode m_Mo_tellPoint.2.1 0 = .ok (.iload_n 2, 1) ∧ 0 + 1 = 1 := ⟨by decide +kernel, rfl⟩
theorem d_Mo_tellPoint_1 : decode m_Mo_tellPoint.2.1 1 = .ok (.tableswitch 74 0 3 #[31, 45, 62, 68], 31) := by decide +kernel
theorem d_Mo_tellPoint_32 : decode m_Mo_tellPoint.2.1 32 = .ok (.ldc_w 289, 3) ∧ 32 + 3 = 35 := ⟨by decide +kernel, rfl⟩
theorem d_Mo_tellPoint_35 : decode m_Mo_tellPoint.2.1 35 = .ok (.aload_n 0, 1) ∧ 35 + 1 = 36 := ⟨by decide +kernel, rfl⟩
theorem d_Mo_tellPoint_36 : decode m_Mo_tellPoint.2.1 36 = .ok (.iload_n 1, 1) ∧ 36 + 1 = 37 := ⟨by decide +kernel, rfl⟩
theorem d_Mo_tellPoint_37 : decode m_Mo_tellPoint.2.1 37 = .ok (.ldc2_w 290, 3) ∧ 37 + 3 = 40 := ⟨by decide +kernel, rfl⟩
theorem d_Mo_tellPoint_40 : decode m_Mo_tellPoint.2.1 40 = .ok (.invokevirtual 180, 3) ∧ 40 + 3 = 43 := ⟨by decide +kernel, rfl⟩
theorem d_Mo_tellPoint_43 : decode m_Mo_tellPoint.2.1 43 = .ok (.l2i, 1) ∧ 43 + 1 = 44 := ⟨by decide +kernel, rfl⟩
theorem d_Mo_tellPoint_44 : decode m_Mo_tellPoint.2.1 44 = .ok (.iadd, 1) ∧ 44 + 1 = 45 := ⟨by decide +kernel, rfl⟩
theorem d_Mo_tellPoint_45 : decode m_Mo_tellPoint.2.1 45 = .ok (.ireturn, 1) := by decide +kernel
theorem d_Mo_tellPoint_46 : decode m_Mo_tellPoint.2.1 46 = .ok (.aload_n 0, 1) ∧ 46 + 1 = 47 := ⟨by decide +kernel, rfl⟩
theorem d_Mo_tellPoint_47 : decode m_Mo_tellPoint.2.1 47 = .ok (.getfield 29, 3) ∧ 47 + 3 = 50 := ⟨by decide +kernel, rfl⟩
theorem d_Mo_tellPoint_50 : decode m_Mo_tellPoint.2.1 50 = .ok (.iload_n 1, 1) ∧ 50 + 1 = 51 := ⟨by decide +kernel, rfl⟩
theorem d_Mo_tellPoint_51 : decode m_Mo_tellPoint.2.1 51 = .ok (.laload, 1) ∧ 51 + 1 = 52 := ⟨by decide +kernel, rfl⟩
theorem d_Mo_tellPoint_52 : decode m_Mo_tellPoint.2.1 52 = .ok (.lconst 0, 1) ∧ 52 + 1 = 53 := ⟨by decide +kernel, rfl⟩
theorem d_Mo_tellPoint_53 : decode m_Mo_tellPoint.2.1 53 = .ok (.lcmp, 1) ∧ 53 + 1 = 54 := ⟨by decide +kernel, rfl⟩
theorem d_Mo_tellPoint_54 : decode m_Mo_tellPoint.2.1 54 = .ok (.ifCond .ne 7, 3) ∧ 54 + 3 = 57 ∧ (((54 : Nat) : Int) + (7) = ((61 : Nat) : Int)) := ⟨by decide +kernel, rfl, by decide⟩
theorem d_Mo_tellPoint_57 : decode m_Mo_tellPoint.2.1 57 = .ok (.iconst 1, 1) ∧ 57 + 1 = 58 := ⟨by decide +kernel, rfl⟩
theorem d_Mo_tellPoint_58 : decode m_Mo_tellPoint.2.1 58 = .ok (.goto 4, 3) ∧ (((58 : Nat) : Int) + (4) = ((62 : Nat) : Int)) := ⟨by decide +kernel, by decide⟩
theorem d_Mo_tellPoint_61 : decode m_Mo_tellPoint.2.1 61 = .ok (.iconst 0, 1) ∧ 61 + 1 = 62 := ⟨by decide +kernel, rfl⟩
theorem d_Mo_tellPoint_62 : decode m_Mo_tellPoint.2.1 62 = .ok (.ireturn, 1) := by decide +kernel
theorem d_Mo_tellPoint_63 : decode m_Mo_tellPoint.2.1 63 = .ok (.aload_n 0, 1) ∧ 63 + 1 = 64 := ⟨by decide +kernel, rfl⟩
theorem d_Mo_tellPoint_64 : decode m_Mo_tellPoint.2.1 64 = .ok (.iload_n 1, 1) ∧ 64 + 1 = 65 := ⟨by decide +kernel, rfl⟩
theorem d_Mo_tellPoint_65 : decode m_Mo_tellPoint.2.1 65 = .ok (.invokevirtual 292, 3) ∧ 65 + 3 = 68 := ⟨by decide +kernel, rfl⟩
theorem d_Mo_tellPoint_68 : decode m_Mo_tellPoint.2.1 68 = .ok (.ireturn, 1) := by decide +kernel
theorem d_Mo_tellPoint_69 : decode m_Mo_tellPoint.2.1 69 = .ok (.aload_n 0, 1) ∧ 69 + 1 = 70 := ⟨by decide +kernel, rfl⟩
theorem d_Mo_tellPoint_70 : decode m_Mo_tellPoint.2.1 70 = .ok (.iload_n 1, 1) ∧ 70 + 1 = 71 := ⟨by decide +kernel, rfl⟩
theorem d_Mo_tellPoint_71 : decode m_Mo_tellPoint.2.1 71 = .ok (.invokevirtual 295, 3) ∧ 71 + 3 = 74 := ⟨by decide +kernel, rfl⟩
theorem d_Mo_tellPoint_74 : decode m_Mo_tellPoint.2.1 74 = .ok (.ireturn, 1) := by decide +kernel
theorem d_Mo_tellPoint_75 : decode m_Mo_tellPoint.2.1 75 = .ok (.bipush (-102), 2) ∧ 75 + 2 = 77 ∧ (Int8.ofInt (-102)).toInt32 = Int32.ofInt (-102) := ⟨by decide +kernel, rfl, by decide +kernel⟩
theorem d_Mo_tellPoint_77 : decode m_Mo_tellPoint.2.1 77 = .ok (.ireturn, 1) := by decide +kernel
theorem d_Mo_point_0 : decode m_Mo_point.2.1 0 = .ok (.aload_n 0, 1) ∧ 0 + 1 = 1 := ⟨by decide +kernel, rfl⟩
theorem d_Mo_point_1 : decode m_Mo_point.2.1 1 = .ok (.invokevirtual 213, 3) ∧ 1 + 3 = 4 := ⟨by decide +kernel, rfl⟩
theorem d_Mo_point_4 : decode m_Mo_point.2.1 4 = .ok (.ifCond .eq 6, 3) ∧ 4 + 3 = 7 ∧ (((4 : Nat) : Int) + (6) = ((10 : Nat) : Int)) := ⟨by decide +kernel, rfl, by decide⟩
theorem d_Mo_point_7 : decode m_Mo_point.2.1 7 = .ok (.bipush (-101), 2) ∧ 7 + 2 = 9 ∧ (Int8.ofInt (-101)).toInt32 = Int32.ofInt (-101) := ⟨by decide +kernel, rfl, by decide +kernel⟩
theorem d_Mo_point_9 : decode m_Mo_point.2.1 9 = .ok (.ireturn, 1) := by decide +kernel
theorem d_Mo_point_10 : decode m_Mo_point.2.1 10 = .ok (.aload_n 0, 1) ∧ 10 + 1 = 11 := ⟨by decide +kernel, rfl⟩
theorem d_Mo_point_11 : decode m_Mo_point.2.1 11 = .ok (.invokevirtual 217, 3) ∧ 11 + 3 = 14 := ⟨by decide +kernel, rfl⟩
theorem d_Mo_point_14 : decode m_Mo_point.2.1 14 = .ok (.iload_n 1, 1) ∧ 14 + 1 = 15 := ⟨by decide +kernel, rfl⟩
theorem d_Mo_point_15 : decode m_Mo_point.2.1 15 = .ok (.i2l, 1) ∧ 15 + 1 = 16 := ⟨by decide +kernel, rfl⟩
theorem d_Mo_point_16 : decode m_Mo_point.2.1 16 = .ok (.lconst 0, 1) ∧ 16 + 1 = 17 := ⟨by decide +kernel, rfl⟩
theorem d_Mo_point_17 : decode m_Mo_point.2.1 17 = .ok (.aload_n 0, 1) ∧ 17 + 1 = 18 := ⟨by decide +kernel, rfl⟩
theorem d_Mo_point_18 : decode m_Mo_point.2.1 18 = .ok (.getfield 156, 3) ∧ 18 + 3 = 21 := ⟨by decide +kernel, rfl⟩
theorem d_Mo_point_21 : decode m_Mo_point.2.1 21 = .ok (.iconst 1, 1) ∧ 21 + 1 = 22 := ⟨by decide +kernel, rfl⟩
theorem d_Mo_point_22 : decode m_Mo_point.2.1 22 = .ok (.isub, 1) ∧ 22 + 1 = 23 := ⟨by decide +kernel, rfl⟩
theorem d_Mo_point_23 : decode m_Mo_point.2.1 23 = .ok (.i2l, 1) ∧ 23 + 1 = 24 := ⟨by decide +kernel, rfl⟩
theorem d_Mo_point_24 : decode m_Mo_point.2.1 24 = .ok (.invokestatic 80, 3) ∧ 24 + 3 = 27 := ⟨by decide +kernel, rfl⟩
theorem d_Mo_point_27 : decode m_Mo_point.2.1 27 = .ok (.ifCond .eq 12, 3) ∧ 27 + 3 = 30 ∧ (((27 : Nat) : Int) + (12) = ((39 : Nat) : Int)) := ⟨by decide +kernel, rfl, by decide⟩
theorem d_Mo_point_30 : decode m_Mo_point.2.1 30 = .ok (.aload_n 0, 1) ∧ 30 + 1 = 31 := ⟨by decide +kernel, rfl⟩
theorem d_Mo_point_31 : decode m_Mo_point.2.1 31 = .ok (.iload_n 1, 1) ∧ 31 + 1 = 32 := ⟨by decide +kernel, rfl⟩
theorem d_Mo_point_32 : decode m_Mo_point.2.1 32 = .ok (.iload_n 2, 1) ∧ 32 + 1 = 33 := ⟨by decide +kernel, rfl⟩
theorem d_Mo_point_33 : decode m_Mo_point.2.1 33 = .ok (.invokevirtual 298, 3) ∧ 33 + 3 = 36 := ⟨by decide +kernel, rfl⟩
theorem d_Mo_point_36 : decode m_Mo_point.2.1 36 = .ok (.goto 5, 3) ∧ (((36 : Nat) : Int) + (5) = ((41 : Nat) : Int)) := ⟨by decide +kernel, by decide⟩
theorem d_Mo_point_39 : decode m_Mo_point.2.1 39 = .ok (.bipush (-101), 2) ∧ 39 + 2 = 41 ∧ (Int8.ofInt (-101)).toInt32 = Int32.ofInt (-101) := ⟨by decide +kernel, rfl, by decide +kernel⟩
theorem d_Mo_point_41 : decode m_Mo_point.2.1 41 = .ok (.ireturn, 1) := by decide +kernel
theorem d_Mo_isNumber_0 : decode m_Mo_isNumber.2.1 0 = .ok (.iload_n 0, 1) ∧ 0 + 1 = 1 := ⟨by decide +kernel, rfl⟩
theorem d_Mo_isNumber_1 : decode m_Mo_isNumber.2.1 1 = .ok (.i2l, 1) ∧ 1 + 1 = 2 := ⟨by decide +kernel, rfl⟩
theorem d_Mo_isNumber_2 : decode m_Mo_isNumber.2.1 2 = .ok (.ldc2_w 301, 3) ∧ 2 + 3 = 5 := ⟨by decide +kernel, rfl⟩
theorem d_Mo_isNumber_5 : decode m_Mo_isNumber.2.1 5 = .ok (.ldc2_w 303, 3) ∧ 5 + 3 = 8 := ⟨by decide +kernel, rfl⟩
theorem d_Mo_isNumber_8 : decode m_Mo_isNumber.2.1 8 = .ok (.invokestatic 80, 3) ∧ 8 + 3 = 11 := ⟨by decide +kernel, rfl⟩
theorem d_Mo_isNumber_11 : decode m_Mo_isNumber.2.1 11 = .ok (.ireturn, 1) := by decide +kernel
theorem d_Mo_put_0 : decode m_Mo_put.2.1 0 = .ok (.iload_n 1, 1) ∧ 0 + 1 = 1 := ⟨by decide +kernel, rfl⟩
theorem d_Mo_put_1 : decode m_Mo_put.2.1 1 = .ok (.i2l, 1) ∧ 1 + 1 = 2 := ⟨by decide +kernel, rfl⟩
theorem d_Mo_put_2 : decode m_Mo_put.2.1 2 = .ok (.lconst 0, 1) ∧ 2 + 1 = 3 := ⟨by decide +kernel, rfl⟩
theorem d_Mo_put_3 : decode m_Mo_put.2.1 3 = .ok (.ldc2_w 284, 3) ∧ 3 + 3 = 6 := ⟨by decide +kernel, rfl⟩
theorem d_Mo_put_6 : decode m_Mo_put.2.1 6 = .ok (.invokestatic 80, 3) ∧ 6 + 3 = 9 := ⟨by decide +kernel, rfl⟩
theorem d_Mo_put_9 : decode m_Mo_put.2.1 9 = .ok (.ifCond .eq 17, 3) ∧ 9 + 3 = 12 ∧ (((9 : Nat) : Int) + (17) = ((26 : Nat) : Int)) := ⟨by decide +kernel, rfl, by decide⟩
theorem d_Mo_put_12 : decode m_Mo_put.2.1 12 = .ok (.iload_n 2, 1) ∧ 12 + 1 = 13 := ⟨by decide +kernel, rfl⟩
theorem d_Mo_put_13 : decode m_Mo_put.2.1 13 = .ok (.invokestatic 305, 3) ∧ 13 + 3 = 16 := ⟨by decide +kernel, rfl⟩
theorem d_Mo_put_16 : decode m_Mo_put.2.1 16 = .ok (.ifCond .eq 10, 3) ∧ 16 + 3 = 19 ∧ (((16 : Nat) : Int) + (10) = ((26 : Nat) : Int)) := ⟨by decide +kernel, rfl, by decide⟩
theorem d_Mo_put_19 : decode m_Mo_put.2.1 19 = .ok (.iload_n 3, 1) ∧ 19 + 1 = 20 := ⟨by decide +kernel, rfl⟩
theorem d_Mo_put_20 : decode m_Mo_put.2.1 20 = .ok (.invokestatic 305, 3) ∧ 20 + 3 = 23 := ⟨by decide +kernel, rfl⟩
theorem d_Mo_put_23 : decode m_Mo_put.2.1 23 = .ok (.ifCond .ne 6, 3) ∧ 23 + 3 = 26 ∧ (((23 : Nat) : Int) + (6) = ((29 : Nat) : Int)) := ⟨by decide +kernel, rfl, by decide⟩
theorem d_Mo_put_26 : decode m_Mo_put.2.1 26 = .ok (.bipush (-102), 2) ∧ 26 + 2 = 28 ∧ (Int8.ofInt (-102)).toInt32 = Int32.ofInt (-102) := ⟨by decide +kernel, rfl, by decide +kernel⟩
theorem d_Mo_put_28 : decode m_Mo_put.2.1 28 = .ok (.ireturn, 1) := by decide +kernel
theorem d_Mo_put_29 : decode m_Mo_put.2.1 29 = .ok (.aload_n 0, 1) ∧ 29 + 1 = 30 := ⟨by decide +kernel, rfl⟩
theorem d_Mo_put_30 : decode m_Mo_put.2.1 30 = .ok (.invokevirtual 213, 3) ∧ 30 + 3 = 33 := ⟨by decide +kernel, rfl⟩
theorem d_Mo_put_33 : decode m_Mo_put.2.1 33 = .ok (.ifCond .eq 6, 3) ∧ 33 + 3 = 36 ∧ (((33 : Nat) : Int) + (6) = ((39 : Nat) : Int)) := ⟨by decide +kernel, rfl, by decide⟩
theorem d_Mo_put_36 : decode m_Mo_put.2.1 36 = .ok (.bipush (-103), 2) ∧ 36 + 2 = 38 ∧ (Int8.ofInt (-103)).toInt32 = Int32.ofInt (-103) := ⟨by decide +kernel, rfl, by decide +kernel⟩
theorem d_Mo_put_38 : decode m_Mo_put.2.1 38 = .ok (.ireturn, 1) := by decide +kernel
theorem d_Mo_put_39 : decode m_Mo_put.2.1 39 = .ok (.aload_n 0, 1) ∧ 39 + 1 = 40 := ⟨by decide +kernel, rfl⟩
theorem d_Mo_put_40 : decode m_Mo_put.2.1 40 = .ok (.getfield 103, 3) ∧ 40 + 3 = 43 := ⟨by decide +kernel, rfl⟩
theorem d_Mo_put_43 : decode m_Mo_put.2.1 43 = .ok (.iconst 4, 1) ∧ 43 + 1 = 44 := ⟨by decide +kernel, rfl⟩
theorem d_Mo_put_44 : decode m_Mo_put.2.1 44 = .ok (.if_icmp .ne 6, 3) ∧ 44 + 3 = 47 ∧ (((44 : Nat) : Int) + (6) = ((50 : Nat) : Int)) := ⟨by decide +kernel, rfl, by decide⟩
theorem d_Mo_put_47 : decode m_Mo_put.2.1 47 = .ok (.bipush (-104), 2) ∧ 47 + 2 = 49 ∧ (Int8.ofInt (-104)).toInt32 = Int32.ofInt (-104) := ⟨by decide +kernel, rfl, by decide +kernel⟩
theorem d_Mo_put_49 : decode m_Mo_put.2.1 49 = .ok (.ireturn, 1) := by decide +kernel
theorem d_Mo_put_50 : decode m_Mo_put.2.1 50 = .ok (.aload_n 0, 1) ∧ 50 + 1 = 51 := ⟨by decide +kernel, rfl⟩
theorem d_Mo_put_51 : decode m_Mo_put.2.1 51 = .ok (.getfield 13, 3) ∧ 51 + 3 = 54 := ⟨by decide +kernel, rfl⟩
theorem d_Mo_put_54 : decode m_Mo_put.2.1 54 = .ok (.aload_n 0, 1) ∧ 54 + 1 = 55 := ⟨by decide +kernel, rfl⟩
theorem d_Mo_put_55 : decode m_Mo_put.2.1 55 = .ok (.getfield 103, 3) ∧ 55 + 3 = 58 := ⟨by decide +kernel, rfl⟩
theorem d_Mo_put_58 : decode m_Mo_put.2.1 58 = .ok (.iload_n 1, 1) ∧ 58 + 1 = 59 := ⟨by decide +kernel, rfl⟩
theorem d_Mo_put_59 : decode m_Mo_put.2.1 59 = .ok (.iastore, 1) ∧ 59 + 1 = 60 := ⟨by decide +kernel, rfl⟩
theorem d_Mo_put_60 : decode m_Mo_put.2.1 60 = .ok (.aload_n 0, 1) ∧ 60 + 1 = 61 := ⟨by decide +kernel, rfl⟩
theorem d_Mo_put_61 : decode m_Mo_put.2.1 61 = .ok (.getfield 16, 3) ∧ 61 + 3 = 64 := ⟨by decide +kernel, rfl⟩
theorem d_Mo_put_64 : decode m_Mo_put.2.1 64 = .ok (.aload_n 0, 1) ∧ 64 + 1 = 65 := ⟨by decide +kernel, rfl⟩
theorem d_Mo_put_65 : decode m_Mo_put.2.1 65 = .ok (.getfield 103, 3) ∧ 65 + 3 = 68 := ⟨by decide +kernel, rfl⟩
theorem d_Mo_put_68 : decode m_Mo_put.2.1 68 = .ok (.iload_n 2, 1) ∧ 68 + 1 = 69 := ⟨by decide +kernel, rfl⟩
theorem d_Mo_put_69 : decode m_Mo_put.2.1 69 = .ok (.iastore, 1) ∧ 69 + 1 = 70 := ⟨by decide +kernel, rfl⟩
theorem d_Mo_put_70 : decode m_Mo_put.2.1 70 = .ok (.aload_n 0, 1) ∧ 70 + 1 = 71 := ⟨by decide +kernel, rfl⟩
theorem d_Mo_put_71 : decode m_Mo_put.2.1 71 = .ok (.getfield 19, 3) ∧ 71 + 3 = 74 := ⟨by decide +kernel, rfl⟩
theorem d_Mo_put_74 : decode m_Mo_put.2.1 74 = .ok (.aload_n 0, 1) ∧ 74 + 1 = 75 := ⟨by decide +kernel, rfl⟩
theorem d_Mo_put_75 : decode m_Mo_put.2.1 75 = .ok (.getfield 103, 3) ∧ 75 + 3 = 78 := ⟨by decide +kernel, rfl⟩
theorem d_Mo_put_78 : decode m_Mo_put.2.1 78 = .ok (.iload_n 3, 1) ∧ 78 + 1 = 79 := ⟨by decide +kernel, rfl⟩
theorem d_Mo_put_79 : decode m_Mo_put.2.1 79 = .ok (.iastore, 1) ∧ 79 + 1 = 80 := ⟨by decide +kernel, rfl⟩
theorem d_Mo_put_80 : decode m_Mo_put.2.1 80 = .ok (.aload_n 0, 1) ∧ 80 + 1 = 81 := ⟨by decide +kernel, rfl⟩
theorem d_Mo_put_81 : decode m_Mo_put.2.1 81 = .ok (.aload_n 0, 1) ∧ 81 + 1 = 82 := ⟨by decide +kernel, rfl⟩
theorem d_Mo_put_82 : decode m_Mo_put.2.1 82 = .ok (.getfield 103, 3) ∧ 82 + 3 = 85 := ⟨by decide +kernel, rfl⟩
theorem d_Mo_put_85 : decode m_Mo_put.2.1 85 = .ok (.invokevirtual 109, 3) ∧ 85 + 3 = 88 := ⟨by decide +kernel, rfl⟩
theorem d_Mo_put_88 : decode m_Mo_put.2.1 88 = .ok (.aload_n 0, 1) ∧ 88 + 1 = 89 := ⟨by decide +kernel, rfl⟩
theorem d_Mo_put_89 : decode m_Mo_put.2.1 89 = .ok (.dup, 1) ∧ 89 + 1 = 90 := ⟨by decide +kernel, rfl⟩
theorem d_Mo_put_90 : decode m_Mo_put.2.1 90 = .ok (.getfield 103, 3) ∧ 90 + 3 = 93 := ⟨by decide +kernel, rfl⟩
theorem d_Mo_put_93 : decode m_Mo_put.2.1 93 = .ok (.iconst 1, 1) ∧ 93 + 1 = 94 := ⟨by decide +kernel, rfl⟩
theorem d_Mo_put_94 : decode m_Mo_put.2.1 94 = .ok (.iadd, 1) ∧ 94 + 1 = 95 := ⟨by decide +kernel, rfl⟩
theorem d_Mo_put_95 : decode m_Mo_put.2.1 95 = .ok (.putfield 103, 3) ∧ 95 + 3 = 98 := ⟨by decide +kernel, rfl⟩
theorem d_Mo_put_98 : decode m_Mo_put.2.1 98 = .ok (.aload_n 0, 1) ∧ 98 + 1 = 99 := ⟨by decide +kernel, rfl⟩
theorem d_Mo_put_99 : decode m_Mo_put.2.1 99 = .ok (.iconst 1, 1) ∧ 99 + 1 = 100 := ⟨by decide +kernel, rfl⟩
theorem d_Mo_put_100 : decode m_Mo_put.2.1 100 = .ok (.putfield 119, 3) ∧ 100 + 3 = 103 := ⟨by decide +kernel, rfl⟩
theorem d_Mo_put_103 : decode m_Mo_put.2.1 103 = .ok (.aload_n 0, 1) ∧ 103 + 1 = 104 := ⟨by decide +kernel, rfl⟩
theorem d_Mo_put_104 : decode m_Mo_put.2.1 104 = .ok (.getfield 103, 3) ∧ 104 + 3 = 107 := ⟨by decide +kernel, rfl⟩
theorem d_Mo_put_107 : decode m_Mo_put.2.1 107 = .ok (.ireturn, 1) := by decide +kernel
theorem d_Mo_take_0 : decode m_Mo_take.2.1 0 = .ok (.aload_n 0, 1) ∧ 0 + 1 = 1 := ⟨by decide +kernel, rfl⟩
theorem d_Mo_take_1 : decode m_Mo_take.2.1 1 = .ok (.iload_n 1, 1) ∧ 1 + 1 = 2 := ⟨by decide +kernel, rfl⟩
theorem d_Mo_take_2 : decode m_Mo_take.2.1 2 = .ok (.invokevirtual 227, 3) ∧ 2 + 3 = 5 := ⟨by decide +kernel, rfl⟩
theorem d_Mo_take_5 : decode m_Mo_take.2.1 5 = .ok (.ifCond .ne 6, 3) ∧ 5 + 3 = 8 ∧ (((5 : Nat) : Int) + (6) = ((11 : Nat) : Int)) := ⟨by decide +kernel, rfl, by decide⟩
theorem d_Mo_take_8 : decode m_Mo_take.2.1 8 = .ok (.bipush (-101), 2) ∧ 8 + 2 = 10 ∧ (Int8.ofInt (-101)).toInt32 = Int32.ofInt (-101) := ⟨by decide +kernel, rfl, by decide +kernel⟩
theorem d_Mo_take_10 : decode m_Mo_take.2.1 10 = .ok (.ireturn, 1) := by decide +kernel
theorem d_Mo_take_11 : decode m_Mo_take.2.1 11 = .ok (.aload_n 0, 1) ∧ 11 + 1 = 12 := ⟨by decide +kernel, rfl⟩
theorem d_Mo_take_12 : decode m_Mo_take.2.1 12 = .ok (.getfield 103, 3) ∧ 12 + 3 = 15 := ⟨by decide +kernel, rfl⟩
theorem d_Mo_take_15 : decode m_Mo_take.2.1 15 = .ok (.iconst 1, 1) ∧ 15 + 1 = 16 := ⟨by decide +kernel, rfl⟩
theorem d_Mo_take_16 : decode m_Mo_take.2.1 16 = .ok (.if_icmp .ne 6, 3) ∧ 16 + 3 = 19 ∧ (((16 : Nat) : Int) + (6) = ((22 : Nat) : Int)) := ⟨by decide +kernel, rfl, by decide⟩
theorem d_Mo_take_19 : decode m_Mo_take.2.1 19 = .ok (.bipush (-103), 2) ∧ 19 + 2 = 21 ∧ (Int8.ofInt (-103)).toInt32 = Int32.ofInt (-103) := ⟨by decide +kernel, rfl, by decide +kernel⟩
theorem d_Mo_take_21 : decode m_Mo_take.2.1 21 = .ok (.ireturn, 1) := by decide +kernel
theorem d_Mo_take_22 : decode m_Mo_take.2.1 22 = .ok (.aload_n 0, 1) ∧ 22 + 1 = 23 := ⟨by decide +kernel, rfl⟩
theorem d_Mo_take_23 : decode m_Mo_take.2.1 23 = .ok (.getfield 22, 3) ∧ 23 + 3 = 26 := ⟨by decide +kernel, rfl⟩
theorem d_Mo_take_26 : decode m_Mo_take.2.1 26 = .ok (.iload_n 1, 1) ∧ 26 + 1 = 27 := ⟨by decide +kernel, rfl⟩
theorem d_Mo_take_27 : decode m_Mo_take.2.1 27 = .ok (.iaload, 1) ∧ 27 + 1 = 28 := ⟨by decide +kernel, rfl⟩
theorem d_Mo_take_28 : decode m_Mo_take.2.1 28 = .ok (.istore_n 2, 1) ∧ 28 + 1 = 29 := ⟨by decide +kernel, rfl⟩
theorem d_Mo_take_29 : decode m_Mo_take.2.1 29 = .ok (.aload_n 0, 1) ∧ 29 + 1 = 30 := ⟨by decide +kernel, rfl⟩
theorem d_Mo_take_30 : decode m_Mo_take.2.1 30 = .ok (.dup, 1) ∧ 30 + 1 = 31 := ⟨by decide +kernel, rfl⟩
theorem d_Mo_take_31 : decode m_Mo_take.2.1 31 = .ok (.getfield 103, 3) ∧ 31 + 3 = 34 := ⟨by decide +kernel, rfl⟩
theorem d_Mo_take_34 : decode m_Mo_take.2.1 34 = .ok (.iconst 1, 1) ∧ 34 + 1 = 35 := ⟨by decide +kernel, rfl⟩
theorem d_Mo_take_35 : decode m_Mo_take.2.1 35 = .ok (.isub, 1) ∧ 35 + 1 = 36 := ⟨by decide +kernel, rfl⟩
theorem d_Mo_take_36 : decode m_Mo_take.2.1 36 = .ok (.putfield 103, 3) ∧ 36 + 3 = 39 := ⟨by decide +kernel, rfl⟩
theorem d_Mo_take_39 : decode m_Mo_take.2.1 39 = .ok (.iload_n 1, 1) ∧ 39 + 1 = 40 := ⟨by decide +kernel, rfl⟩
theorem d_Mo_take_40 : decode m_Mo_take.2.1 40 = .ok (.istore_n 3, 1) ∧ 40 + 1 = 41 := ⟨by decide +kernel, rfl⟩
theorem d_Mo_take_41 : decode m_Mo_take.2.1 41 = .ok (.iload_n 3, 1) ∧ 41 + 1 = 42 := ⟨by decide +kernel, rfl⟩
theorem d_Mo_take_42 : decode m_Mo_take.2.1 42 = .ok (.aload_n 0, 1) ∧ 42 + 1 = 43 := ⟨by decide +kernel, rfl⟩
theorem d_Mo_take_43 : decode m_Mo_take.2.1 43 = .ok (.getfield 103, 3) ∧ 43 + 3 = 46 := ⟨by decide +kernel, rfl⟩
theorem d_Mo_take_46 : decode m_Mo_take.2.1 46 = .ok (.if_icmp .ge 65, 3) ∧ 46 + 3 = 49 ∧ (((46 : Nat) : Int) + (65) = ((111 : Nat) : Int)) := ⟨by decide +kernel, rfl, by decide⟩
theorem d_Mo_take_49 : decode m_Mo_take.2.1 49 = .ok (.aload_n 0, 1) ∧ 49 + 1 = 50 := ⟨by decide +kernel, rfl⟩
theorem d_Mo_take_50 : decode m_Mo_take.2.1 50 = .ok (.getfield 13, 3) ∧ 50 + 3 = 53 := ⟨by decide +kernel, rfl⟩
theorem d_Mo_take_53 : decode m_Mo_take.2.1 53 = .ok (.iload_n 3, 1) ∧ 53 + 1 = 54 := ⟨by decide +kernel, rfl⟩
theorem d_Mo_take_54 : decode m_Mo_take.2.1 54 = .ok (.aload_n 0, 1) ∧ 54 + 1 = 55 := ⟨by decide +kernel, rfl⟩
theorem d_Mo_take_55 : decode m_Mo_take.2.1 55 = .ok (.getfield 13, 3) ∧ 55 + 3 = 58 := ⟨by decide +kernel, rfl⟩
theorem d_Mo_take_58 : decode m_Mo_take.2.1 58 = .ok (.iload_n 3, 1) ∧ 58 + 1 = 59 := ⟨by decide +kernel, rfl⟩
theorem d_Mo_take_59 : decode m_Mo_take.2.1 59 = .ok (.iconst 1, 1) ∧ 59 + 1 = 60 := ⟨by decide +kernel, rfl⟩
theorem d_Mo_take_60 : decode m_Mo_take.2.1 60 = .ok (.iadd, 1) ∧ 60 + 1 = 61 := ⟨by decide +kernel, rfl⟩
theorem d_Mo_take_61 : decode m_Mo_take.2.1 61 = .ok (.iaload, 1) ∧ 61 + 1 = 62 := ⟨by decide +kernel, rfl⟩
theorem d_Mo_take_62 : decode m_Mo_take.2.1 62 = .ok (.iastore, 1) ∧ 62 + 1 = 63 := ⟨by decide +kernel, rfl⟩
theorem d_Mo_take_63 : decode m_Mo_take.2.1 63 = .ok (.aload_n 0, 1) ∧ 63 + 1 = 64 := ⟨by decide +kernel, rfl⟩
theorem d_Mo_take_64 : decode m_Mo_take.2.1 64 = .ok (.getfield 16, 3) ∧ 64 + 3 = 67 := ⟨by decide +kernel, rfl⟩
theorem d_Mo_take_67 : decode m_Mo_take.2.1 67 = .ok (.iload_n 3, 1) ∧ 67 + 1 = 68 := ⟨by decide +kernel, rfl⟩
theorem d_Mo_take_68 : decode m_Mo_take.2.1 68 = .ok (.aload_n 0, 1) ∧ 68 + 1 = 69 := ⟨by decide +kernel, rfl⟩
theorem d_Mo_take_69 : decode m_Mo_take.2.1 69 = .ok (.getfield 16, 3) ∧ 69 + 3 = 72 := ⟨by decide +kernel, rfl⟩
theorem d_Mo_take_72 : decode m_Mo_take.2.1 72 = .ok (.iload_n 3, 1) ∧ 72 + 1 = 73 := ⟨by decide +kernel, rfl⟩
theorem d_Mo_take_73 : decode m_Mo_take.2.1 73 = .ok (.iconst 1, 1) ∧ 73 + 1 = 74 := ⟨by decide +kernel, rfl⟩
theorem d_Mo_take_74 : decode m_Mo_take.2.1 74 = .ok (.iadd, 1) ∧ 74 + 1 = 75 := ⟨by decide +kernel, rfl⟩
theorem d_Mo_take_75 : decode m_Mo_take.2.1 75 = .ok (.iaload, 1) ∧ 75 + 1 = 76 := ⟨by decide +kernel, rfl⟩
theorem d_Mo_take_76 : decode m_Mo_take.2.1 76 = .ok (.iastore, 1) ∧ 76 + 1 = 77 := ⟨by decide +kernel, rfl⟩
theorem d_Mo_take_77 : decode m_Mo_take.2.1 77 = .ok (.aload_n 0, 1) ∧ 77 + 1 = 78 := ⟨by decide +kernel, rfl⟩
theorem d_Mo_take_78 : decode m_Mo_take.2.1 78 = .ok (.getfield 19, 3) ∧ 78 + 3 = 81 := ⟨by decide +kernel, rfl⟩
theorem d_Mo_take_81 : decode m_Mo_take.2.1 81 = .ok (.iload_n 3, 1) ∧ 81 + 1 = 82 := ⟨by decide +kernel, rfl⟩
theorem d_Mo_take_82 : decode m_Mo_take.2.1 82 = .ok (.aload_n 0, 1) ∧ 82 + 1 = 83 := ⟨by decide +kernel, rfl⟩
theorem d_Mo_take_83 : decode m_Mo_take.2.1 83 = .ok (.getfield 19, 3) ∧ 83 + 3 = 86 := ⟨by decide +kernel, rfl⟩
theorem d_Mo_take_86 : decode m_Mo_take.2.1 86 = .ok (.iload_n 3, 1) ∧ 86 + 1 = 87 := ⟨by decide +kernel, rfl⟩
theorem d_Mo_take_87 : decode m_Mo_take.2.1 87 = .ok (.iconst 1, 1) ∧ 87 + 1 = 88 := ⟨by decide +kernel, rfl⟩
theorem d_Mo_take_88 : decode m_Mo_take.2.1 88 = .ok (.iadd, 1) ∧ 88 + 1 = 89 := ⟨by decide +kernel, rfl⟩
theorem d_Mo_take_89 : decode m_Mo_take.2.1 89 = .ok (.iaload, 1) ∧ 89 + 1 = 90 := ⟨by decide +kernel, rfl⟩
theorem d_Mo_take_90 : decode m_Mo_take.2.1 90 = .ok (.iastore, 1) ∧ 90 + 1 = 91 := ⟨by decide +kernel, rfl⟩
theorem d_Mo_take_91 : decode m_Mo_take.2.1 91 = .ok (.aload_n 0, 1) ∧ 91 + 1 = 92 := ⟨by decide +kernel, rfl⟩
theorem d_Mo_take_92 : decode m_Mo_take.2.1 92 = .ok (.getfield 22, 3) ∧ 92 + 3 = 95 := ⟨by decide +kernel, rfl⟩
theorem d_Mo_take_95 : decode m_Mo_take.2.1 95 = .ok (.iload_n 3, 1) ∧ 95 + 1 = 96 := ⟨by decide +kernel, rfl⟩
theorem d_Mo_take_96 : decode m_Mo_take.2.1 96 = .ok (.aload_n 0, 1) ∧ 96 + 1 = 97 := ⟨by decide +kernel, rfl⟩
theorem d_Mo_take_97 : decode m_Mo_take.2.1 97 = .ok (.getfield 22, 3) ∧ 97 + 3 = 100 := ⟨by decide +kernel, rfl⟩
theorem d_Mo_take_100 : decode m_Mo_take.2.1 100 = .ok (.iload_n 3, 1) ∧ 100 + 1 = 101 := ⟨by decide +kernel, rfl⟩
theorem d_Mo_take_101 : decode m_Mo_take.2.1 101 = .ok (.iconst 1, 1) ∧ 101 + 1 = 102 := ⟨by decide +kernel, rfl⟩
theorem d_Mo_take_102 : decode m_Mo_take.2.1 102 = .ok (.iadd, 1) ∧ 102 + 1 = 103 := ⟨by decide +kernel, rfl⟩
theorem d_Mo_take_103 : decode m_Mo_take.2.1 103 = .ok (.iaload, 1) ∧ 103 + 1 = 104 := ⟨by decide +kernel, rfl⟩
theorem d_Mo_take_104 : decode m_Mo_take.2.1 104 = .ok (.iastore, 1) ∧ 104 + 1 = 105 := ⟨by decide +kernel, rfl⟩
theorem d_Mo_take_105 : decode m_Mo_take.2.1 105 = .ok (.iinc 3 1, 3) ∧ 105 + 3 = 108 := ⟨by decide +kernel, rfl⟩
theorem d_Mo_take_108 : decode m_Mo_take.2.1 108 = .ok (.goto (-67), 3) ∧ (((108 : Nat) : Int) + (-67) = ((41 : Nat) : Int)) := ⟨by decide +kernel, by decide⟩
theorem d_Mo_take_111 : decode m_Mo_take.2.1 111 = .ok (.aload_n 0, 1) ∧ 111 + 1 = 112 := ⟨by decide +kernel, rfl⟩
theorem d_Mo_take_112 : decode m_Mo_take.2.1 112 = .ok (.iconst 1, 1) ∧ 112 + 1 = 113 := ⟨by decide +kernel, rfl⟩
theorem d_Mo_take_113 : decode m_Mo_take.2.1 113 = .ok (.putfield 119, 3) ∧ 113 + 3 = 116 := ⟨by decide +kernel, rfl⟩
theorem d_Mo_take_116 : decode m_Mo_take.2.1 116 = .ok (.iload_n 2, 1) ∧ 116 + 1 = 117 := ⟨by decide +kernel, rfl⟩
theorem d_Mo_take_117 : decode m_Mo_take.2.1 117 = .ok (.ireturn, 1) := by decide +kernel
theorem d_Mo_cellsNow_0 : decode m_Mo_cellsNow.2.1 0 = .ok (.aload_n 0, 1) ∧ 0 + 1 = 1 := ⟨by decide +kernel, rfl⟩
theorem d_Mo_cellsNow_1 : decode m_Mo_cellsNow.2.1 1 = .ok (.iconst 1, 1) ∧ 1 + 1 = 2 := ⟨by decide +kernel, rfl⟩
theorem d_Mo_cellsNow_2 : decode m_Mo_cellsNow.2.1 2 = .ok (.putfield 119, 3) ∧ 2 + 3 = 5 := ⟨by decide +kernel, rfl⟩
theorem d_Mo_cellsNow_5 : decode m_Mo_cellsNow.2.1 5 = .ok (.aload_n 0, 1) ∧ 5 + 1 = 6 := ⟨by decide +kernel, rfl⟩
theorem d_Mo_cellsNow_6 : decode m_Mo_cellsNow.2.1 6 = .ok (.invokevirtual 217, 3) ∧ 6 + 3 = 9 := ⟨by decide +kernel, rfl⟩
theorem d_Mo_cellsNow_9 : decode m_Mo_cellsNow.2.1 9 = .ok (.aload_n 0, 1) ∧ 9 + 1 = 10 := ⟨by decide +kernel, rfl⟩
theorem d_Mo_cellsNow_10 : decode m_Mo_cellsNow.2.1 10 = .ok (.invokevirtual 272, 3) ∧ 10 + 3 = 13 := ⟨by decide +kernel, rfl⟩
theorem d_Mo_cellsNow_13 : decode m_Mo_cellsNow.2.1 13 = .ok (.ireturn, 1) := by decide +kernel
theorem d_Mo_move_0 : decode m_Mo_move.2.1 0 = .ok (.aload_n 0, 1) ∧ 0 + 1 = 1 := ⟨by decide +kernel, rfl⟩
theorem d_Mo_move_1 : decode m_Mo_move.2.1 1 = .ok (.iload_n 1, 1) ∧ 1 + 1 = 2 := ⟨by decide +kernel, rfl⟩
theorem d_Mo_move_2 : decode m_Mo_move.2.1 2 = .ok (.invokevirtual 227, 3) ∧ 2 + 3 = 5 := ⟨by decide +kernel, rfl⟩
theorem d_Mo_move_5 : decode m_Mo_move.2.1 5 = .ok (.ifCond .ne 6, 3) ∧ 5 + 3 = 8 ∧ (((5 : Nat) : Int) + (6) = ((11 : Nat) : Int)) := ⟨by decide +kernel, rfl, by decide⟩
theorem d_Mo_move_8 : decode m_Mo_move.2.1 8 = .ok (.bipush (-101), 2) ∧ 8 + 2 = 10 ∧ (Int8.ofInt (-101)).toInt32 = Int32.ofInt (-101) := ⟨by decide +kernel, rfl, by decide +kernel⟩
theorem d_Mo_move_10 : decode m_Mo_move.2.1 10 = .ok (.ireturn, 1) := by decide +kernel
theorem d_Mo_move_11 : decode m_Mo_move.2.1 11 = .ok (.iload_n 2, 1) ∧ 11 + 1 = 12 := ⟨by decide +kernel, rfl⟩
theorem d_Mo_move_12 : decode m_Mo_move.2.1 12 = .ok (.invokestatic 305, 3) ∧ 12 + 3 = 15 := ⟨by decide +kernel, rfl⟩
theorem d_Mo_move_15 : decode m_Mo_move.2.1 15 = .ok (.ifCond .eq 10, 3) ∧ 15 + 3 = 18 ∧ (((15 : Nat) : Int) + (10) = ((25 : Nat) : Int)) := ⟨by decide +kernel, rfl, by decide⟩
theorem d_Mo_move_18 : decode m_Mo_move.2.1 18 = .ok (.iload_n 3, 1) ∧ 18 + 1 = 19 := ⟨by decide +kernel, rfl⟩
theorem d_Mo_move_19 : decode m_Mo_move.2.1 19 = .ok (.invokestatic 305, 3) ∧ 19 + 3 = 22 := ⟨by decide +kernel, rfl⟩
theorem d_Mo_move_22 : decode m_Mo_move.2.1 22 = .ok (.ifCond .ne 6, 3) ∧ 22 + 3 = 25 ∧ (((22 : Nat) : Int) + (6) = ((28 : Nat) : Int)) := ⟨by decide +kernel, rfl, by decide⟩
theorem d_Mo_move_25 : decode m_Mo_move.2.1 25 = .ok (.bipush (-102), 2) ∧ 25 + 2 = 27 ∧ (Int8.ofInt (-102)).toInt32 = Int32.ofInt (-102) := ⟨by decide +kernel, rfl, by decide +kernel⟩
theorem d_Mo_move_27 : decode m_Mo_move.2.1 27 = .ok (.ireturn, 1) := by decide +kernel
theorem d_Mo_move_28 : decode m_Mo_move.2.1 28 = .ok (.aload_n 0, 1) ∧ 28 + 1 = 29 := ⟨by decide +kernel, rfl⟩
theorem d_Mo_move_29 : decode m_Mo_move.2.1 29 = .ok (.getfield 16, 3) ∧ 29 + 3 = 32 := ⟨by decide +kernel, rfl⟩
theorem d_Mo_move_32 : decode m_Mo_move.2.1 32 = .ok (.iload_n 1, 1) ∧ 32 + 1 = 33 := ⟨by decide +kernel, rfl⟩
theorem d_Mo_move_33 : decode m_Mo_move.2.1 33 = .ok (.iload_n 2, 1) ∧ 33 + 1 = 34 := ⟨by decide +kernel, rfl⟩
theorem d_Mo_move_34 : decode m_Mo_move.2.1 34 = .ok (.iastore, 1) ∧ 34 + 1 = 35 := ⟨by decide +kernel, rfl⟩
theorem d_Mo_move_35 : decode m_Mo_move.2.1 35 = .ok (.aload_n 0, 1) ∧ 35 + 1 = 36 := ⟨by decide +kernel, rfl⟩
theorem d_Mo_move_36 : decode m_Mo_move.2.1 36 = .ok (.getfield 19, 3) ∧ 36 + 3 = 39 := ⟨by decide +kernel, rfl⟩
theorem d_Mo_move_39 : decode m_Mo_move.2.1 39 = .ok (.iload_n 1, 1) ∧ 39 + 1 = 40 := ⟨by decide +kernel, rfl⟩
theorem d_Mo_move_40 : decode m_Mo_move.2.1 40 = .ok (.iload_n 3, 1) ∧ 40 + 1 = 41 := ⟨by decide +kernel, rfl⟩
theorem d_Mo_move_41 : decode m_Mo_move.2.1 41 = .ok (.iastore, 1) ∧ 41 + 1 = 42 := ⟨by decide +kernel, rfl⟩
theorem d_Mo_move_42 : decode m_Mo_move.2.1 42 = .ok (.aload_n 0, 1) ∧ 42 + 1 = 43 := ⟨by decide +kernel, rfl⟩
theorem d_Mo_move_43 : decode m_Mo_move.2.1 43 = .ok (.invokevirtual 308, 3) ∧ 43 + 3 = 46 := ⟨by decide +kernel, rfl⟩
theorem d_Mo_move_46 : decode m_Mo_move.2.1 46 = .ok (.ireturn, 1) := by decide +kernel
theorem d_Mo_change_0 : decode m_Mo_change.2.1 0 = .ok (.aload_n 0, 1) ∧ 0 + 1 = 1 := ⟨by decide +kernel, rfl⟩
theorem d_Mo_change_1 : decode m_Mo_change.2.1 1 = .ok (.iload_n 1, 1) ∧ 1 + 1 = 2 := ⟨by decide +kernel, rfl⟩
theorem d_Mo_change_2 : decode m_Mo_change.2.1 2 = .ok (.invokevirtual 227, 3) ∧ 2 + 3 = 5 := ⟨by decide +kernel, rfl⟩
theorem d_Mo_change_5 : decode m_Mo_change.2.1 5 = .ok (.ifCond .ne 6, 3) ∧ 5 + 3 = 8 ∧ (((5 : Nat) : Int) + (6) = ((11 : Nat) : Int)) := ⟨by decide +kernel, rfl, by decide⟩
theorem d_Mo_change_8 : decode m_Mo_change.2.1 8 = .ok (.bipush (-101), 2) ∧ 8 + 2 = 10 ∧ (Int8.ofInt (-101)).toInt32 = Int32.ofInt (-101) := ⟨by decide +kernel, rfl, by decide +kernel⟩
theorem d_Mo_change_10 : decode m_Mo_change.2.1 10 = .ok (.ireturn, 1) := by decide +kernel
theorem d_Mo_change_11 : decode m_Mo_change.2.1 11 = .ok (.iload_n 2, 1) ∧ 11 + 1 = 12 := ⟨by decide +kernel, rfl⟩
theorem d_Mo_change_12 : decode m_Mo_change.2.1 12 = .ok (.i2l, 1) ∧ 12 + 1 = 13 := ⟨by decide +kernel, rfl⟩
theorem d_Mo_change_13 : decode m_Mo_change.2.1 13 = .ok (.lconst 0, 1) ∧ 13 + 1 = 14 := ⟨by decide +kernel, rfl⟩
theorem d_Mo_change_14 : decode m_Mo_change.2.1 14 = .ok (.ldc2_w 284, 3) ∧ 14 + 3 = 17 := ⟨by decide +kernel, rfl⟩
theorem d_Mo_change_17 : decode m_Mo_change.2.1 17 = .ok (.invokestatic 80, 3) ∧ 17 + 3 = 20 := ⟨by decide +kernel, rfl⟩
theorem d_Mo_change_20 : decode m_Mo_change.2.1 20 = .ok (.ifCond .ne 6, 3) ∧ 20 + 3 = 23 ∧ (((20 : Nat) : Int) + (6) = ((26 : Nat) : Int)) := ⟨by decide +kernel, rfl, by decide⟩
theorem d_Mo_change_23 : decode m_Mo_change.2.1 23 = .ok (.bipush (-102), 2) ∧ 23 + 2 = 25 ∧ (Int8.ofInt (-102)).toInt32 = Int32.ofInt (-102) := ⟨by decide +kernel, rfl, by decide +kernel⟩
theorem d_Mo_change_25 : decode m_Mo_change.2.1 25 = .ok (.ireturn, 1) := by decide +kernel
theorem d_Mo_change_26 : decode m_Mo_change.2.1 26 = .ok (.aload_n 0, 1) ∧ 26 + 1 = 27 := ⟨by decide +kernel, rfl⟩
theorem d_Mo_change_27 : decode m_Mo_change.2.1 27 = .ok (.getfield 13, 3) ∧ 27 + 3 = 30 := ⟨by decide +kernel, rfl⟩
theorem d_Mo_change_30 : decode m_Mo_change.2.1 30 = .ok (.iload_n 1, 1) ∧ 30 + 1 = 31 := ⟨by decide +kernel, rfl⟩
theorem d_Mo_change_31 : decode m_Mo_change.2.1 31 = .ok (.iaload, 1) ∧ 31 + 1 = 32 := ⟨by decide +kernel, rfl⟩
theorem d_Mo_change_32 : decode m_Mo_change.2.1 32 = .ok (.istore_n 3, 1) ∧ 32 + 1 = 33 := ⟨by decide +kernel, rfl⟩
theorem d_Mo_change_33 : decode m_Mo_change.2.1 33 = .ok (.aload_n 0, 1) ∧ 33 + 1 = 34 := ⟨by decide +kernel, rfl⟩
theorem d_Mo_change_34 : decode m_Mo_change.2.1 34 = .ok (.getfield 13, 3) ∧ 34 + 3 = 37 := ⟨by decide +kernel, rfl⟩
theorem d_Mo_change_37 : decode m_Mo_change.2.1 37 = .ok (.iload_n 1, 1) ∧ 37 + 1 = 38 := ⟨by decide +kernel, rfl⟩
theorem d_Mo_change_38 : decode m_Mo_change.2.1 38 = .ok (.iload_n 2, 1) ∧ 38 + 1 = 39 := ⟨by decide +kernel, rfl⟩
theorem d_Mo_change_39 : decode m_Mo_change.2.1 39 = .ok (.iastore, 1) ∧ 39 + 1 = 40 := ⟨by decide +kernel, rfl⟩
theorem d_Mo_change_40 : decode m_Mo_change.2.1 40 = .ok (.aload_n 0, 1) ∧ 40 + 1 = 41 := ⟨by decide +kernel, rfl⟩
theorem d_Mo_change_41 : decode m_Mo_change.2.1 41 = .ok (.iconst 1, 1) ∧ 41 + 1 = 42 := ⟨by decide +kernel, rfl⟩
theorem d_Mo_change_42 : decode m_Mo_change.2.1 42 = .ok (.putfield 119, 3) ∧ 42 + 3 = 45 := ⟨by decide +kernel, rfl⟩
theorem d_Mo_change_45 : decode m_Mo_change.2.1 45 = .ok (.iload_n 3, 1) ∧ 45 + 1 = 46 := ⟨by decide +kernel, rfl⟩
theorem d_Mo_change_46 : decode m_Mo_change.2.1 46 = .ok (.ireturn, 1) := by decide +kernel
theorem d_Mo_mirror_0 : decode m_Mo_mirror.2.1 0 = .ok (.aload_n 0, 1) ∧ 0 + 1 = 1 := ⟨by decide +kernel, rfl⟩
theorem d_Mo_mirror_1 : decode m_Mo_mirror.2.1 1 = .ok (.invokevirtual 213, 3) ∧ 1 + 3 = 4 := ⟨by decide +kernel, rfl⟩
theorem d_Mo_mirror_4 : decode m_Mo_mirror.2.1 4 = .ok (.ifCond .eq 6, 3) ∧ 4 + 3 = 7 ∧ (((4 : Nat) : Int) + (6) = ((10 : Nat) : Int)) := ⟨by decide +kernel, rfl, by decide⟩
theorem d_Mo_mirror_7 : decode m_Mo_mirror.2.1 7 = .ok (.bipush (-103), 2) ∧ 7 + 2 = 9 ∧ (Int8.ofInt (-103)).toInt32 = Int32.ofInt (-103) := ⟨by decide +kernel, rfl, by decide +kernel⟩
theorem d_Mo_mirror_9 : decode m_Mo_mirror.2.1 9 = .ok (.ireturn, 1) := by decide +kernel
theorem d_Mo_mirror_10 : decode m_Mo_mirror.2.1 10 = .ok (.iconst 0, 1) ∧ 10 + 1 = 11 := ⟨by decide +kernel, rfl⟩
theorem d_Mo_mirror_11 : decode m_Mo_mirror.2.1 11 = .ok (.istore_n 1, 1) ∧ 11 + 1 = 12 := ⟨by decide +kernel, rfl⟩
theorem d_Mo_mirror_12 : decode m_Mo_mirror.2.1 12 = .ok (.iload_n 1, 1) ∧ 12 + 1 = 13 := ⟨by decide +kernel, rfl⟩
theorem d_Mo_mirror_13 : decode m_Mo_mirror.2.1 13 = .ok (.aload_n 0, 1) ∧ 13 + 1 = 14 := ⟨by decide +kernel, rfl⟩
theorem d_Mo_mirror_14 : decode m_Mo_mirror.2.1 14 = .ok (.getfield 103, 3) ∧ 14 + 3 = 17 := ⟨by decide +kernel, rfl⟩
theorem d_Mo_mirror_17 : decode m_Mo_mirror.2.1 17 = .ok (.if_icmp .ge 54, 3) ∧ 17 + 3 = 20 ∧ (((17 : Nat) : Int) + (54) = ((71 : Nat) : Int)) := ⟨by decide +kernel, rfl, by decide⟩
theorem d_Mo_mirror_20 : decode m_Mo_mirror.2.1 20 = .ok (.aload_n 0, 1) ∧ 20 + 1 = 21 := ⟨by decide +kernel, rfl⟩
theorem d_Mo_mirror_21 : decode m_Mo_mirror.2.1 21 = .ok (.getfield 16, 3) ∧ 21 + 3 = 24 := ⟨by decide +kernel, rfl⟩
theorem d_Mo_mirror_24 : decode m_Mo_mirror.2.1 24 = .ok (.iload_n 1, 1) ∧ 24 + 1 = 25 := ⟨by decide +kernel, rfl⟩
theorem d_Mo_mirror_25 : decode m_Mo_mirror.2.1 25 = .ok (.iconst 0, 1) ∧ 25 + 1 = 26 := ⟨by decide +kernel, rfl⟩
theorem d_Mo_mirror_26 : decode m_Mo_mirror.2.1 26 = .ok (.aload_n 0, 1) ∧ 26 + 1 = 27 := ⟨by decide +kernel, rfl⟩
theorem d_Mo_mirror_27 : decode m_Mo_mirror.2.1 27 = .ok (.getfield 16, 3) ∧ 27 + 3 = 30 := ⟨by decide +kernel, rfl⟩
theorem d_Mo_mirror_30 : decode m_Mo_mirror.2.1 30 = .ok (.iload_n 1, 1) ∧ 30 + 1 = 31 := ⟨by decide +kernel, rfl⟩
theorem d_Mo_mirror_31 : decode m_Mo_mirror.2.1 31 = .ok (.iaload, 1) ∧ 31 + 1 = 32 := ⟨by decide +kernel, rfl⟩
theorem d_Mo_mirror_32 : decode m_Mo_mirror.2.1 32 = .ok (.isub, 1) ∧ 32 + 1 = 33 := ⟨by decide +kernel, rfl⟩
theorem d_Mo_mirror_33 : decode m_Mo_mirror.2.1 33 = .ok (.iastore, 1) ∧ 33 + 1 = 34 := ⟨by decide +kernel, rfl⟩
theorem d_Mo_mirror_34 : decode m_Mo_mirror.2.1 34 = .ok (.aload_n 0, 1) ∧ 34 + 1 = 35 := ⟨by decide +kernel, rfl⟩
theorem d_Mo_mirror_35 : decode m_Mo_mirror.2.1 35 = .ok (.getfield 19, 3) ∧ 35 + 3 = 38 := ⟨by decide +kernel, rfl⟩
theorem d_Mo_mirror_38 : decode m_Mo_mirror.2.1 38 = .ok (.iload_n 1, 1) ∧ 38 + 1 = 39 := ⟨by decide +kernel, rfl⟩
theorem d_Mo_mirror_39 : decode m_Mo_mirror.2.1 39 = .ok (.aload_n 0, 1) ∧ 39 + 1 = 40 := ⟨by decide +kernel, rfl⟩
theorem d_Mo_mirror_40 : decode m_Mo_mirror.2.1 40 = .ok (.iload_n 1, 1) ∧ 40 + 1 = 41 := ⟨by decide +kernel, rfl⟩
theorem d_Mo_mirror_41 : decode m_Mo_mirror.2.1 41 = .ok (.invokevirtual 173, 3) ∧ 41 + 3 = 44 := ⟨by decide +kernel, rfl⟩
theorem d_Mo_mirror_44 : decode m_Mo_mirror.2.1 44 = .ok (.ifCond .eq 14, 3) ∧ 44 + 3 = 47 ∧ (((44 : Nat) : Int) + (14) = ((58 : Nat) : Int)) := ⟨by decide +kernel, rfl, by decide⟩
theorem d_Mo_mirror_47 : decode m_Mo_mirror.2.1 47 = .ok (.iconst 0, 1) ∧ 47 + 1 = 48 := ⟨by decide +kernel, rfl⟩
theorem d_Mo_mirror_48 : decode m_Mo_mirror.2.1 48 = .ok (.aload_n 0, 1) ∧ 48 + 1 = 49 := ⟨by decide +kernel, rfl⟩
theorem d_Mo_mirror_49 : decode m_Mo_mirror.2.1 49 = .ok (.getfield 19, 3) ∧ 49 + 3 = 52 := ⟨by decide +kernel, rfl⟩
theorem d_Mo_mirror_52 : decode m_Mo_mirror.2.1 52 = .ok (.iload_n 1, 1) ∧ 52 + 1 = 53 := ⟨by decide +kernel, rfl⟩
theorem d_Mo_mirror_53 : decode m_Mo_mirror.2.1 53 = .ok (.iaload, 1) ∧ 53 + 1 = 54 := ⟨by decide +kernel, rfl⟩
theorem d_Mo_mirror_54 : decode m_Mo_mirror.2.1 54 = .ok (.isub, 1) ∧ 54 + 1 = 55 := ⟨by decide +kernel, rfl⟩
theorem d_Mo_mirror_55 : decode m_Mo_mirror.2.1 55 = .ok (.goto 9, 3) ∧ (((55 : Nat) : Int) + (9) = ((64 : Nat) : Int)) := ⟨by decide +kernel, by decide⟩
theorem d_Mo_mirror_58 : decode m_Mo_mirror.2.1 58 = .ok (.aload_n 0, 1) ∧ 58 + 1 = 59 := ⟨by decide +kernel, rfl⟩
theorem d_Mo_mirror_59 : decode m_Mo_mirror.2.1 59 = .ok (.getfield 19, 3) ∧ 59 + 3 = 62 := ⟨by decide +kernel, rfl⟩
theorem d_Mo_mirror_62 : decode m_Mo_mirror.2.1 62 = .ok (.iload_n 1, 1) ∧ 62 + 1 = 63 := ⟨by decide +kernel, rfl⟩
theorem d_Mo_mirror_63 : decode m_Mo_mirror.2.1 63 = .ok (.iaload, 1) ∧ 63 + 1 = 64 := ⟨by decide +kernel, rfl⟩
theorem d_Mo_mirror_64 : decode m_Mo_mirror.2.1 64 = .ok (.iastore, 1) ∧ 64 + 1 = 65 := ⟨by decide +kernel, rfl⟩
theorem d_Mo_mirror_65 : decode m_Mo_mirror.2.1 65 = .ok (.iinc 1 1, 3) ∧ 65 + 3 = 68 := ⟨by decide +kernel, rfl⟩
theorem d_Mo_mirror_68 : decode m_Mo_mirror.2.1 68 = .ok (.goto (-56), 3) ∧ (((68 : Nat) : Int) + (-56) = ((12 : Nat) : Int)) := ⟨by decide +kernel, by decide⟩
theorem d_Mo_mirror_71 : decode m_Mo_mirror.2.1 71 = .ok (.aload_n 0, 1) ∧ 71 + 1 = 72 := ⟨by decide +kernel, rfl⟩
theorem d_Mo_mirror_72 : decode m_Mo_mirror.2.1 72 = .ok (.invokevirtual 308, 3) ∧ 72 + 3 = 75 := ⟨by decide +kernel, rfl⟩
theorem d_Mo_mirror_75 : decode m_Mo_mirror.2.1 75 = .ok (.ireturn, 1) := by decide +kernel
theorem d_Mo_see_0 : decode m_Mo_see.2.1 0 = .ok (.aload_n 0, 1) ∧ 0 + 1 = 1 := ⟨by decide +kernel, rfl⟩
theorem d_Mo_see_1 : decode m_Mo_see.2.1 1 = .ok (.iload_n 1, 1) ∧ 1 + 1 = 2 := ⟨by decide +kernel, rfl⟩
theorem d_Mo_see_2 : decode m_Mo_see.2.1 2 = .ok (.invokevirtual 227, 3) ∧ 2 + 3 = 5 := ⟨by decide +kernel, rfl⟩
theorem d_Mo_see_5 : decode m_Mo_see.2.1 5 = .ok (.ifCond .ne 6, 3) ∧ 5 + 3 = 8 ∧ (((5 : Nat) : Int) + (6) = ((11 : Nat) : Int)) := ⟨by decide +kernel, rfl, by decide⟩
theorem d_Mo_see_8 : decode m_Mo_see.2.1 8 = .ok (.bipush (-101), 2) ∧ 8 + 2 = 10 ∧ (Int8.ofInt (-101)).toInt32 = Int32.ofInt (-101) := ⟨by decide +kernel, rfl, by decide +kernel⟩
theorem d_Mo_see_10 : decode m_Mo_see.2.1 10 = .ok (.ireturn, 1) := by decide +kernel
theorem d_Mo_see_11 : decode m_Mo_see.2.1 11 = .ok (.iload_n 2, 1) ∧ 11 + 1 = 12 := ⟨by decide +kernel, rfl⟩
theorem d_Mo_see_12 : decode m_Mo_see.2.1 12 = .ok (.invokestatic 305, 3) ∧ 12 + 3 = 15 := ⟨by decide +kernel, rfl⟩
theorem d_Mo_see_15 : decode m_Mo_see.2.1 15 = .ok (.ifCond .eq 23, 3) ∧ 15 + 3 = 18 ∧ (((15 : Nat) : Int) + (23) = ((38 : Nat) : Int)) := ⟨by decide +kernel, rfl, by decide⟩
theorem d_Mo_see_18 : decode m_Mo_see.2.1 18 = .ok (.iload_n 3, 1) ∧ 18 + 1 = 19 := ⟨by decide +kernel, rfl⟩
theorem d_Mo_see_19 : decode m_Mo_see.2.1 19 = .ok (.invokestatic 305, 3) ∧ 19 + 3 = 22 := ⟨by decide +kernel, rfl⟩
theorem d_Mo_see_22 : decode m_Mo_see.2.1 22 = .ok (.ifCond .eq 16, 3) ∧ 22 + 3 = 25 ∧ (((22 : Nat) : Int) + (16) = ((38 : Nat) : Int)) := ⟨by decide +kernel, rfl, by decide⟩
theorem d_Mo_see_25 : decode m_Mo_see.2.1 25 = .ok (.iload 4, 2) ∧ 25 + 2 = 27 := ⟨by decide +kernel, rfl⟩
theorem d_Mo_see_27 : decode m_Mo_see.2.1 27 = .ok (.i2l, 1) ∧ 27 + 1 = 28 := ⟨by decide +kernel, rfl⟩
theorem d_Mo_see_28 : decode m_Mo_see.2.1 28 = .ok (.lconst 0, 1) ∧ 28 + 1 = 29 := ⟨by decide +kernel, rfl⟩
theorem d_Mo_see_29 : decode m_Mo_see.2.1 29 = .ok (.ldc2_w 150, 3) ∧ 29 + 3 = 32 := ⟨by decide +kernel, rfl⟩
theorem d_Mo_see_32 : decode m_Mo_see.2.1 32 = .ok (.invokestatic 80, 3) ∧ 32 + 3 = 35 := ⟨by decide +kernel, rfl⟩
theorem d_Mo_see_35 : decode m_Mo_see.2.1 35 = .ok (.ifCond .ne 6, 3) ∧ 35 + 3 = 38 ∧ (((35 : Nat) : Int) + (6) = ((41 : Nat) : Int)) := ⟨by decide +kernel, rfl, by decide⟩
theorem d_Mo_see_38 : decode m_Mo_see.2.1 38 = .ok (.bipush (-102), 2) ∧ 38 + 2 = 40 ∧ (Int8.ofInt (-102)).toInt32 = Int32.ofInt (-102) := ⟨by decide +kernel, rfl, by decide +kernel⟩
theorem d_Mo_see_40 : decode m_Mo_see.2.1 40 = .ok (.ireturn, 1) := by decide +kernel
theorem d_Mo_see_41 : decode m_Mo_see.2.1 41 = .ok (.aload_n 0, 1) ∧ 41 + 1 = 42 := ⟨by decide +kernel, rfl⟩
theorem d_Mo_see_42 : decode m_Mo_see.2.1 42 = .ok (.getfield 113, 3) ∧ 42 + 3 = 45 := ⟨by decide +kernel, rfl⟩
theorem d_Mo_see_45 : decode m_Mo_see.2.1 45 = .ok (.bipush 6, 2) ∧ 45 + 2 = 47 ∧ (Int8.ofInt 6).toInt32 = Int32.ofInt 6 := ⟨by decide +kernel, rfl, by decide +kernel⟩
theorem d_Mo_see_47 : decode m_Mo_see.2.1 47 = .ok (.if_icmp .ne 6, 3) ∧ 47 + 3 = 50 ∧ (((47 : Nat) : Int) + (6) = ((53 : Nat) : Int)) := ⟨by decide +kernel, rfl, by decide⟩
theorem d_Mo_see_50 : decode m_Mo_see.2.1 50 = .ok (.bipush (-104), 2) ∧ 50 + 2 = 52 ∧ (Int8.ofInt (-104)).toInt32 = Int32.ofInt (-104) := ⟨by decide +kernel, rfl, by decide +kernel⟩
theorem d_Mo_see_52 : decode m_Mo_see.2.1 52 = .ok (.ireturn, 1) := by decide +kernel
theorem d_Mo_see_53 : decode m_Mo_see.2.1 53 = .ok (.aload_n 0, 1) ∧ 53 + 1 = 54 := ⟨by decide +kernel, rfl⟩
theorem d_Mo_see_54 : decode m_Mo_see.2.1 54 = .ok (.getfield 50, 3) ∧ 54 + 3 = 57 := ⟨by decide +kernel, rfl⟩
theorem d_Mo_see_57 : decode m_Mo_see.2.1 57 = .ok (.iconst 4, 1) ∧ 57 + 1 = 58 := ⟨by decide +kernel, rfl⟩
theorem d_Mo_see_58 : decode m_Mo_see.2.1 58 = .ok (.aload_n 0, 1) ∧ 58 + 1 = 59 := ⟨by decide +kernel, rfl⟩
theorem d_Mo_see_59 : decode m_Mo_see.2.1 59 = .ok (.getfield 113, 3) ∧ 59 + 3 = 62 := ⟨by decide +kernel, rfl⟩
theorem d_Mo_see_62 : decode m_Mo_see.2.1 62 = .ok (.imul, 1) ∧ 62 + 1 = 63 := ⟨by decide +kernel, rfl⟩
theorem d_Mo_see_63 : decode m_Mo_see.2.1 63 = .ok (.iload_n 1, 1) ∧ 63 + 1 = 64 := ⟨by decide +kernel, rfl⟩
theorem d_Mo_see_64 : decode m_Mo_see.2.1 64 = .ok (.iastore, 1) ∧ 64 + 1 = 65 := ⟨by decide +kernel, rfl⟩
theorem d_Mo_see_65 : decode m_Mo_see.2.1 65 = .ok (.aload_n 0, 1) ∧ 65 + 1 = 66 := ⟨by decide +kernel, rfl⟩
theorem d_Mo_see_66 : decode m_Mo_see.2.1 66 = .ok (.getfield 50, 3) ∧ 66 + 3 = 69 := ⟨by decide +kernel, rfl⟩
theorem d_Mo_see_69 : decode m_Mo_see.2.1 69 = .ok (.iconst 4, 1) ∧ 69 + 1 = 70 := ⟨by decide +kernel, rfl⟩
theorem d_Mo_see_70 : decode m_Mo_see.2.1 70 = .ok (.aload_n 0, 1) ∧ 70 + 1 = 71 := ⟨by decide +kernel, rfl⟩
theorem d_Mo_see_71 : decode m_Mo_see.2.1 71 = .ok (.getfield 113, 3) ∧ 71 + 3 = 74 := ⟨by decide +kernel, rfl⟩
theorem d_Mo_see_74 : decode m_Mo_see.2.1 74 = .ok (.imul, 1) ∧ 74 + 1 = 75 := ⟨by decide +kernel, rfl⟩
theorem d_Mo_see_75 : decode m_Mo_see.2.1 75 = .ok (.iconst 1, 1) ∧ 75 + 1 = 76 := ⟨by decide +kernel, rfl⟩
theorem d_Mo_see_76 : decode m_Mo_see.2.1 76 = .ok (.iadd, 1) ∧ 76 + 1 = 77 := ⟨by decide +kernel, rfl⟩
theorem d_Mo_see_77 : decode m_Mo_see.2.1 77 = .ok (.iload_n 2, 1) ∧ 77 + 1 = 78 := ⟨by decide +kernel, rfl⟩
theorem d_Mo_see_78 : decode m_Mo_see.2.1 78 = .ok (.iastore, 1) ∧ 78 + 1 = 79 := ⟨by decide +kernel, rfl⟩
theorem d_Mo_see_79 : decode m_Mo_see.2.1 79 = .ok (.aload_n 0, 1) ∧ 79 + 1 = 80 := ⟨by decide +kernel, rfl⟩
theorem d_Mo_see_80 : decode m_Mo_see.2.1 80 = .ok (.getfield 50, 3) ∧ 80 + 3 = 83 := ⟨by decide +kernel, rfl⟩
theorem d_Mo_see_83 : decode m_Mo_see.2.1 83 = .ok (.iconst 4, 1) ∧ 83 + 1 = 84 := ⟨by decide +kernel, rfl⟩
theorem d_Mo_see_84 : decode m_Mo_see.2.1 84 = .ok (.aload_n 0, 1) ∧ 84 + 1 = 85 := ⟨by decide +kernel, rfl⟩
theorem d_Mo_see_85 : decode m_Mo_see.2.1 85 = .ok (.getfield 113, 3) ∧ 85 + 3 = 88 := ⟨by decide +kernel, rfl⟩
theorem d_Mo_see_88 : decode m_Mo_see.2.1 88 = .ok (.imul, 1) ∧ 88 + 1 = 89 := ⟨by decide +kernel, rfl⟩
theorem d_Mo_see_89 : decode m_Mo_see.2.1 89 = .ok (.iconst 2, 1) ∧ 89 + 1 = 90 := ⟨by decide +kernel, rfl⟩
theorem d_Mo_see_90 : decode m_Mo_see.2.1 90 = .ok (.iadd, 1) ∧ 90 + 1 = 91 := ⟨by decide +kernel, rfl⟩
theorem d_Mo_see_91 : decode m_Mo_see.2.1 91 = .ok (.iload_n 3, 1) ∧ 91 + 1 = 92 := ⟨by decide +kernel, rfl⟩
theorem d_Mo_see_92 : decode m_Mo_see.2.1 92 = .ok (.iastore, 1) ∧ 92 + 1 = 93 := ⟨by decide +kernel, rfl⟩
theorem d_Mo_see_93 : decode m_Mo_see.2.1 93 = .ok (.aload_n 0, 1) ∧ 93 + 1 = 94 := ⟨by decide +kernel, rfl⟩
theorem d_Mo_see_94 : decode m_Mo_see.2.1 94 = .ok (.getfield 50, 3) ∧ 94 + 3 = 97 := ⟨by decide +kernel, rfl⟩
theorem d_Mo_see_97 : decode m_Mo_see.2.1 97 = .ok (.iconst 4, 1) ∧ 97 + 1 = 98 := ⟨by decide +kernel, rfl⟩
theorem d_Mo_see_98 : decode m_Mo_see.2.1 98 = .ok (.aload_n 0, 1) ∧ 98 + 1 = 99 := ⟨by decide +kernel, rfl⟩
theorem d_Mo_see_99 : decode m_Mo_see.2.1 99 = .ok (.getfield 113, 3) ∧ 99 + 3 = 102 := ⟨by decide +kernel, rfl⟩
theorem d_Mo_see_102 : decode m_Mo_see.2.1 102 = .ok (.imul, 1) ∧ 102 + 1 = 103 := ⟨by decide +kernel, rfl⟩
theorem d_Mo_see_103 : decode m_Mo_see.2.1 103 = .ok (.iconst 3, 1) ∧ 103 + 1 = 104 := ⟨by decide +kernel, rfl⟩
theorem d_Mo_see_104 : decode m_Mo_see.2.1 104 = .ok (.iadd, 1) ∧ 104 + 1 = 105 := ⟨by decide +kernel, rfl⟩
theorem d_Mo_see_105 : decode m_Mo_see.2.1 105 = .ok (.iload 4, 2) ∧ 105 + 2 = 107 := ⟨by decide +kernel, rfl⟩
theorem d_Mo_see_107 : decode m_Mo_see.2.1 107 = .ok (.iastore, 1) ∧ 107 + 1 = 108 := ⟨by decide +kernel, rfl⟩
theorem d_Mo_see_108 : decode m_Mo_see.2.1 108 = .ok (.aload_n 0, 1) ∧ 108 + 1 = 109 := ⟨by decide +kernel, rfl⟩
theorem d_Mo_see_109 : decode m_Mo_see.2.1 109 = .ok (.dup, 1) ∧ 109 + 1 = 110 := ⟨by decide +kernel, rfl⟩
theorem d_Mo_see_110 : decode m_Mo_see.2.1 110 = .ok (.getfield 113, 3) ∧ 110 + 3 = 113 := ⟨by decide +kernel, rfl⟩
theorem d_Mo_see_113 : decode m_Mo_see.2.1 113 = .ok (.iconst 1, 1) ∧ 113 + 1 = 114 := ⟨by decide +kernel, rfl⟩
theorem d_Mo_see_114 : decode m_Mo_see.2.1 114 = .ok (.iadd, 1) ∧ 114 + 1 = 115 := ⟨by decide +kernel, rfl⟩
theorem d_Mo_see_115 : decode m_Mo_see.2.1 115 = .ok (.putfield 113, 3) ∧ 115 + 3 = 118 := ⟨by decide +kernel, rfl⟩
theorem d_Mo_see_118 : decode m_Mo_see.2.1 118 = .ok (.aload_n 0, 1) ∧ 118 + 1 = 119 := ⟨by decide +kernel, rfl⟩
theorem d_Mo_see_119 : decode m_Mo_see.2.1 119 = .ok (.getfield 113, 3) ∧ 119 + 3 = 122 := ⟨by decide +kernel, rfl⟩
theorem d_Mo_see_122 : decode m_Mo_see.2.1 122 = .ok (.ireturn, 1) := by decide +kernel
theorem d_Mo_forget_0 : decode m_Mo_forget.2.1 0 = .ok (.aload_n 0, 1) ∧ 0 + 1 = 1 := ⟨by decide +kernel, rfl⟩
theorem d_Mo_forget_1 : decode m_Mo_forget.2.1 1 = .ok (.getfield 113, 3) ∧ 1 + 3 = 4 := ⟨by decide +kernel, rfl⟩
theorem d_Mo_forget_4 : decode m_Mo_forget.2.1 4 = .ok (.istore_n 1, 1) ∧ 4 + 1 = 5 := ⟨by decide +kernel, rfl⟩
theorem d_Mo_forget_5 : decode m_Mo_forget.2.1 5 = .ok (.aload_n 0, 1) ∧ 5 + 1 = 6 := ⟨by decide +kernel, rfl⟩
theorem d_Mo_forget_6 : decode m_Mo_forget.2.1 6 = .ok (.iconst 0, 1) ∧ 6 + 1 = 7 := ⟨by decide +kernel, rfl⟩
theorem d_Mo_forget_7 : decode m_Mo_forget.2.1 7 = .ok (.putfield 113, 3) ∧ 7 + 3 = 10 := ⟨by decide +kernel, rfl⟩
theorem d_Mo_forget_10 : decode m_Mo_forget.2.1 10 = .ok (.iload_n 1, 1) ∧ 10 + 1 = 11 := ⟨by decide +kernel, rfl⟩
theorem d_Mo_forget_11 : decode m_Mo_forget.2.1 11 = .ok (.ireturn, 1) := by decide +kernel
theorem d_Mo_liesAt_0 : decode m_Mo_liesAt.2.1 0 = .ok (.iload_n 2, 1) ∧ 0 + 1 = 1 := ⟨by decide +kernel, rfl⟩
theorem d_Mo_liesAt_1 : decode m_Mo_liesAt.2.1 1 = .ok (.invokestatic 123, 3) ∧ 1 + 3 = 4 := ⟨by decide +kernel, rfl⟩
theorem d_Mo_liesAt_4 : decode m_Mo_liesAt.2.1 4 = .ok (.iload_n 3, 1) ∧ 4 + 1 = 5 := ⟨by decide +kernel, rfl⟩
theorem d_Mo_liesAt_5 : decode m_Mo_liesAt.2.1 5 = .ok (.imul, 1) ∧ 5 + 1 = 6 := ⟨by decide +kernel, rfl⟩
theorem d_Mo_liesAt_6 : decode m_Mo_liesAt.2.1 6 = .ok (.iload_n 3, 1) ∧ 6 + 1 = 7 := ⟨by decide +kernel, rfl⟩
theorem d_Mo_liesAt_7 : decode m_Mo_liesAt.2.1 7 = .ok (.imul, 1) ∧ 7 + 1 = 8 := ⟨by decide +kernel, rfl⟩
theorem d_Mo_liesAt_8 : decode m_Mo_liesAt.2.1 8 = .ok (.iload_n 2, 1) ∧ 8 + 1 = 9 := ⟨by decide +kernel, rfl⟩
theorem d_Mo_liesAt_9 : decode m_Mo_liesAt.2.1 9 = .ok (.iconst 2, 1) ∧ 9 + 1 = 10 := ⟨by decide +kernel, rfl⟩
theorem d_Mo_liesAt_10 : decode m_Mo_liesAt.2.1 10 = .ok (.if_icmp .ne 7, 3) ∧ 10 + 3 = 13 ∧ (((10 : Nat) : Int) + (7) = ((17 : Nat) : Int)) := ⟨by decide +kernel, rfl, by decide⟩
theorem d_Mo_liesAt_13 : decode m_Mo_liesAt.2.1 13 = .ok (.iconst 0, 1) ∧ 13 + 1 = 14 := ⟨by decide +kernel, rfl⟩
theorem d_Mo_liesAt_14 : decode m_Mo_liesAt.2.1 14 = .ok (.goto 11, 3) ∧ (((14 : Nat) : Int) + (11) = ((25 : Nat) : Int)) := ⟨by decide +kernel, by decide⟩
theorem d_Mo_liesAt_17 : decode m_Mo_liesAt.2.1 17 = .ok (.aload_n 0, 1) ∧ 17 + 1 = 18 := ⟨by decide +kernel, rfl⟩
theorem d_Mo_liesAt_18 : decode m_Mo_liesAt.2.1 18 = .ok (.getfield 16, 3) ∧ 18 + 3 = 21 := ⟨by decide +kernel, rfl⟩
theorem d_Mo_liesAt_21 : decode m_Mo_liesAt.2.1 21 = .ok (.iload_n 1, 1) ∧ 21 + 1 = 22 := ⟨by decide +kernel, rfl⟩
theorem d_Mo_liesAt_22 : decode m_Mo_liesAt.2.1 22 = .ok (.iaload, 1) ∧ 22 + 1 = 23 := ⟨by decide +kernel, rfl⟩
theorem d_Mo_liesAt_23 : decode m_Mo_liesAt.2.1 23 = .ok (.iload_n 3, 1) ∧ 23 + 1 = 24 := ⟨by decide +kernel, rfl⟩
theorem d_Mo_liesAt_24 : decode m_Mo_liesAt.2.1 24 = .ok (.imul, 1) ∧ 24 + 1 = 25 := ⟨by decide +kernel, rfl⟩
theorem d_Mo_liesAt_25 : decode m_Mo_liesAt.2.1 25 = .ok (.iadd, 1) ∧ 25 + 1 = 26 := ⟨by decide +kernel, rfl⟩
theorem d_Mo_liesAt_26 : decode m_Mo_liesAt.2.1 26 = .ok (.aload_n 0, 1) ∧ 26 + 1 = 27 := ⟨by decide +kernel, rfl⟩
theorem d_Mo_liesAt_27 : decode m_Mo_liesAt.2.1 27 = .ok (.getfield 19, 3) ∧ 27 + 3 = 30 := ⟨by decide +kernel, rfl⟩
theorem d_Mo_liesAt_30 : decode m_Mo_liesAt.2.1 30 = .ok (.iload_n 1, 1) ∧ 30 + 1 = 31 := ⟨by decide +kernel, rfl⟩
theorem d_Mo_liesAt_31 : decode m_Mo_liesAt.2.1 31 = .ok (.iaload, 1) ∧ 31 + 1 = 32 := ⟨by decide +kernel, rfl⟩
theorem d_Mo_liesAt_32 : decode m_Mo_liesAt.2.1 32 = .ok (.iadd, 1) ∧ 32 + 1 = 33 := ⟨by decide +kernel, rfl⟩
theorem d_Mo_liesAt_33 : decode m_Mo_liesAt.2.1 33 = .ok (.istore 5, 2) ∧ 33 + 2 = 35 := ⟨by decide +kernel, rfl⟩
theorem d_Mo_liesAt_35 : decode m_Mo_liesAt.2.1 35 = .ok (.iload_n 2, 1) ∧ 35 + 1 = 36 := ⟨by decide +kernel, rfl⟩
theorem d_Mo_liesAt_36 : decode m_Mo_liesAt.2.1 36 = .ok (.iconst 3, 1) ∧ 36 + 1 = 37 := ⟨by decide +kernel, rfl⟩
theorem d_Mo_liesAt_37 : decode m_Mo_liesAt.2.1 37 = .ok (.if_icmp .ne 14, 3) ∧ 37 + 3 = 40 ∧ (((37 : Nat) : Int) + (14) = ((51 : Nat) : Int)) := ⟨by decide +kernel, rfl, by decide⟩
theorem d_Mo_liesAt_40 : decode m_Mo_liesAt.2.1 40 = .ok (.aload_n 0, 1) ∧ 40 + 1 = 41 := ⟨by decide +kernel, rfl⟩
theorem d_Mo_liesAt_41 : decode m_Mo_liesAt.2.1 41 = .ok (.getfield 19, 3) ∧ 41 + 3 = 44 := ⟨by decide +kernel, rfl⟩
theorem d_Mo_liesAt_44 : decode m_Mo_liesAt.2.1 44 = .ok (.iload_n 1, 1) ∧ 44 + 1 = 45 := ⟨by decide +kernel, rfl⟩
theorem d_Mo_liesAt_45 : decode m_Mo_liesAt.2.1 45 = .ok (.iaload, 1) ∧ 45 + 1 = 46 := ⟨by decide +kernel, rfl⟩
theorem d_Mo_liesAt_46 : decode m_Mo_liesAt.2.1 46 = .ok (.iload_n 3, 1) ∧ 46 + 1 = 47 := ⟨by decide +kernel, rfl⟩
theorem d_Mo_liesAt_47 : decode m_Mo_liesAt.2.1 47 = .ok (.isub, 1) ∧ 47 + 1 = 48 := ⟨by decide +kernel, rfl⟩
theorem d_Mo_liesAt_48 : decode m_Mo_liesAt.2.1 48 = .ok (.goto 8, 3) ∧ (((48 : Nat) : Int) + (8) = ((56 : Nat) : Int)) := ⟨by decide +kernel, by decide⟩
theorem d_Mo_liesAt_51 : decode m_Mo_liesAt.2.1 51 = .ok (.iload 5, 2) ∧ 51 + 2 = 53 := ⟨by decide +kernel, rfl⟩
theorem d_Mo_liesAt_53 : decode m_Mo_liesAt.2.1 53 = .ok (.iload 4, 2) ∧ 53 + 2 = 55 := ⟨by decide +kernel, rfl⟩
theorem d_Mo_liesAt_55 : decode m_Mo_liesAt.2.1 55 = .ok (.isub, 1) ∧ 55 + 1 = 56 := ⟨by decide +kernel, rfl⟩
theorem d_Mo_liesAt_56 : decode m_Mo_liesAt.2.1 56 = .ok (.istore 6, 2) ∧ 56 + 2 = 58 := ⟨by decide +kernel, rfl⟩
theorem d_Mo_liesAt_58 : decode m_Mo_liesAt.2.1 58 = .ok (.iload 6, 2) ∧ 58 + 2 = 60 := ⟨by decide +kernel, rfl⟩
theorem d_Mo_liesAt_60 : decode m_Mo_liesAt.2.1 60 = .ok (.ifCond .ge 7, 3) ∧ 60 + 3 = 63 ∧ (((60 : Nat) : Int) + (7) = ((67 : Nat) : Int)) := ⟨by decide +kernel, rfl, by decide⟩
theorem d_Mo_liesAt_63 : decode m_Mo_liesAt.2.1 63 = .ok (.iconst 0, 1) ∧ 63 + 1 = 64 := ⟨by decide +kernel, rfl⟩
theorem d_Mo_liesAt_64 : decode m_Mo_liesAt.2.1 64 = .ok (.goto 13, 3) ∧ (((64 : Nat) : Int) + (13) = ((77 : Nat) : Int)) := ⟨by decide +kernel, by decide⟩
theorem d_Mo_liesAt_67 : decode m_Mo_liesAt.2.1 67 = .ok (.iload 6, 2) ∧ 67 + 2 = 69 := ⟨by decide +kernel, rfl⟩
theorem d_Mo_liesAt_69 : decode m_Mo_liesAt.2.1 69 = .ok (.ifCond .ne 7, 3) ∧ 69 + 3 = 72 ∧ (((69 : Nat) : Int) + (7) = ((76 : Nat) : Int)) := ⟨by decide +kernel, rfl, by decide⟩
theorem d_Mo_liesAt_72 : decode m_Mo_liesAt.2.1 72 = .ok (.iconst 1, 1) ∧ 72 + 1 = 73 := ⟨by decide +kernel, rfl⟩
theorem d_Mo_liesAt_73 : decode m_Mo_liesAt.2.1 73 = .ok (.goto 4, 3) ∧ (((73 : Nat) : Int) + (4) = ((77 : Nat) : Int)) := ⟨by decide +kernel, by decide⟩
theorem d_Mo_liesAt_76 : decode m_Mo_liesAt.2.1 76 = .ok (.iconst 2, 1) ∧ 76 + 1 = 77 := ⟨by decide +kernel, rfl⟩
theorem d_Mo_liesAt_77 : decode m_Mo_liesAt.2.1 77 = .ok (.ireturn, 1) := by decide +kernel
theorem d_Mo_sortsOf_0 : decode m_Mo_sortsOf.2.1 0 = .ok (.iconst 0, 1) ∧ 0 + 1 = 1 := ⟨by decide +kernel, rfl⟩
theorem d_Mo_sortsOf_1 : decode m_Mo_sortsOf.2.1 1 = .ok (.istore_n 2, 1) ∧ 1 + 1 = 2 := ⟨by decide +kernel, rfl⟩
theorem d_Mo_sortsOf_2 : decode m_Mo_sortsOf.2.1 2 = .ok (.iconst 0, 1) ∧ 2 + 1 = 3 := ⟨by decide +kernel, rfl⟩
theorem d_Mo_sortsOf_3 : decode m_Mo_sortsOf.2.1 3 = .ok (.istore_n 3, 1) ∧ 3 + 1 = 4 := ⟨by decide +kernel, rfl⟩
theorem d_Mo_sortsOf_4 : decode m_Mo_sortsOf.2.1 4 = .ok (.iload_n 3, 1) ∧ 4 + 1 = 5 := ⟨by decide +kernel, rfl⟩
theorem d_Mo_sortsOf_5 : decode m_Mo_sortsOf.2.1 5 = .ok (.iconst 5, 1) ∧ 5 + 1 = 6 := ⟨by decide +kernel, rfl⟩
theorem d_Mo_sortsOf_6 : decode m_Mo_sortsOf.2.1 6 = .ok (.if_icmp .ge 106, 3) ∧ 6 + 3 = 9 ∧ (((6 : Nat) : Int) + (106) = ((112 : Nat) : Int)) := ⟨by decide +kernel, rfl, by decide⟩
theorem d_Mo_sortsOf_9 : decode m_Mo_sortsOf.2.1 9 = .ok (.iconst 1, 1) ∧ 9 + 1 = 10 := ⟨by decide +kernel, rfl⟩
theorem d_Mo_sortsOf_10 : decode m_Mo_sortsOf.2.1 10 = .ok (.istore 4, 2) ∧ 10 + 2 = 12 := ⟨by decide +kernel, rfl⟩
theorem d_Mo_sortsOf_12 : decode m_Mo_sortsOf.2.1 12 = .ok (.iconst 0, 1) ∧ 12 + 1 = 13 := ⟨by decide +kernel, rfl⟩
theorem d_Mo_sortsOf_13 : decode m_Mo_sortsOf.2.1 13 = .ok (.istore 5, 2) ∧ 13 + 2 = 15 := ⟨by decide +kernel, rfl⟩
theorem d_Mo_sortsOf_15 : decode m_Mo_sortsOf.2.1 15 = .ok (.iload 5, 2) ∧ 15 + 2 = 17 := ⟨by decide +kernel, rfl⟩
theorem d_Mo_sortsOf_17 : decode m_Mo_sortsOf.2.1 17 = .ok (.iconst 4, 1) ∧ 17 + 1 = 18 := ⟨by decide +kernel, rfl⟩
theorem d_Mo_sortsOf_18 : decode m_Mo_sortsOf.2.1 18 = .ok (.aload_n 0, 1) ∧ 18 + 1 = 19 := ⟨by decide +kernel, rfl⟩
theorem d_Mo_sortsOf_19 : decode m_Mo_sortsOf.2.1 19 = .ok (.getfield 113, 3) ∧ 19 + 3 = 22 := ⟨by decide +kernel, rfl⟩
theorem d_Mo_sortsOf_22 : decode m_Mo_sortsOf.2.1 22 = .ok (.imul, 1) ∧ 22 + 1 = 23 := ⟨by decide +kernel, rfl⟩
theorem d_Mo_sortsOf_23 : decode m_Mo_sortsOf.2.1 23 = .ok (.if_icmp .ge 68, 3) ∧ 23 + 3 = 26 ∧ (((23 : Nat) : Int) + (68) = ((91 : Nat) : Int)) := ⟨by decide +kernel, rfl, by decide⟩
theorem d_Mo_sortsOf_26 : decode m_Mo_sortsOf.2.1 26 = .ok (.iload 4, 2) ∧ 26 + 2 = 28 := ⟨by decide +kernel, rfl⟩
theorem d_Mo_sortsOf_28 : decode m_Mo_sortsOf.2.1 28 = .ok (.ifCond .eq 54, 3) ∧ 28 + 3 = 31 ∧ (((28 : Nat) : Int) + (54) = ((82 : Nat) : Int)) := ⟨by decide +kernel, rfl, by decide⟩
theorem d_Mo_sortsOf_31 : decode m_Mo_sortsOf.2.1 31 = .ok (.aload_n 0, 1) ∧ 31 + 1 = 32 := ⟨by decide +kernel, rfl⟩
theorem d_Mo_sortsOf_32 : decode m_Mo_sortsOf.2.1 32 = .ok (.getfield 50, 3) ∧ 32 + 3 = 35 := ⟨by decide +kernel, rfl⟩
theorem d_Mo_sortsOf_35 : decode m_Mo_sortsOf.2.1 35 = .ok (.iload 5, 2) ∧ 35 + 2 = 37 := ⟨by decide +kernel, rfl⟩
theorem d_Mo_sortsOf_37 : decode m_Mo_sortsOf.2.1 37 = .ok (.iaload, 1) ∧ 37 + 1 = 38 := ⟨by decide +kernel, rfl⟩
theorem d_Mo_sortsOf_38 : decode m_Mo_sortsOf.2.1 38 = .ok (.iload_n 1, 1) ∧ 38 + 1 = 39 := ⟨by decide +kernel, rfl⟩
theorem d_Mo_sortsOf_39 : decode m_Mo_sortsOf.2.1 39 = .ok (.if_icmp .ne 39, 3) ∧ 39 + 3 = 42 ∧ (((39 : Nat) : Int) + (39) = ((78 : Nat) : Int)) := ⟨by decide +kernel, rfl, by decide⟩
theorem d_Mo_sortsOf_42 : decode m_Mo_sortsOf.2.1 42 = .ok (.aload_n 0, 1) ∧ 42 + 1 = 43 := ⟨by decide +kernel, rfl⟩
theorem d_Mo_sortsOf_43 : decode m_Mo_sortsOf.2.1 43 = .ok (.iload_n 1, 1) ∧ 43 + 1 = 44 := ⟨by decide +kernel, rfl⟩
theorem d_Mo_sortsOf_44 : decode m_Mo_sortsOf.2.1 44 = .ok (.iload_n 3, 1) ∧ 44 + 1 = 45 := ⟨by decide +kernel, rfl⟩
theorem d_Mo_sortsOf_45 : decode m_Mo_sortsOf.2.1 45 = .ok (.aload_n 0, 1) ∧ 45 + 1 = 46 := ⟨by decide +kernel, rfl⟩
theorem d_Mo_sortsOf_46 : decode m_Mo_sortsOf.2.1 46 = .ok (.getfield 50, 3) ∧ 46 + 3 = 49 := ⟨by decide +kernel, rfl⟩
theorem d_Mo_sortsOf_49 : decode m_Mo_sortsOf.2.1 49 = .ok (.iload 5, 2) ∧ 49 + 2 = 51 := ⟨by decide +kernel, rfl⟩
theorem d_Mo_sortsOf_51 : decode m_Mo_sortsOf.2.1 51 = .ok (.iconst 1, 1) ∧ 51 + 1 = 52 := ⟨by decide +kernel, rfl⟩
theorem d_Mo_sortsOf_52 : decode m_Mo_sortsOf.2.1 52 = .ok (.iadd, 1) ∧ 52 + 1 = 53 := ⟨by decide +kernel, rfl⟩
theorem d_Mo_sortsOf_53 : decode m_Mo_sortsOf.2.1 53 = .ok (.iaload, 1) ∧ 53 + 1 = 54 := ⟨by decide +kernel, rfl⟩
theorem d_Mo_sortsOf_54 : decode m_Mo_sortsOf.2.1 54 = .ok (.aload_n 0, 1) ∧ 54 + 1 = 55 := ⟨by decide +kernel, rfl⟩
theorem d_Mo_sortsOf_55 : decode m_Mo_sortsOf.2.1 55 = .ok (.getfield 50, 3) ∧ 55 + 3 = 58 := ⟨by decide +kernel, rfl⟩
theorem d_Mo_sortsOf_58 : decode m_Mo_sortsOf.2.1 58 = .ok (.iload 5, 2) ∧ 58 + 2 = 60 := ⟨by decide +kernel, rfl⟩
theorem d_Mo_sortsOf_60 : decode m_Mo_sortsOf.2.1 60 = .ok (.iconst 2, 1) ∧ 60 + 1 = 61 := ⟨by decide +kernel, rfl⟩
theorem d_Mo_sortsOf_61 : decode m_Mo_sortsOf.2.1 61 = .ok (.iadd, 1) ∧ 61 + 1 = 62 := ⟨by decide +kernel, rfl⟩
theorem d_Mo_sortsOf_62 : decode m_Mo_sortsOf.2.1 62 = .ok (.iaload, 1) ∧ 62 + 1 = 63 := ⟨by decide +kernel, rfl⟩
theorem d_Mo_sortsOf_63 : decode m_Mo_sortsOf.2.1 63 = .ok (.invokevirtual 311, 3) ∧ 63 + 3 = 66 := ⟨by decide +kernel, rfl⟩
theorem d_Mo_sortsOf_66 : decode m_Mo_sortsOf.2.1 66 = .ok (.aload_n 0, 1) ∧ 66 + 1 = 67 := ⟨by decide +kernel, rfl⟩
theorem d_Mo_sortsOf_67 : decode m_Mo_sortsOf.2.1 67 = .ok (.getfield 50, 3) ∧ 67 + 3 = 70 := ⟨by decide +kernel, rfl⟩
theorem d_Mo_sortsOf_70 : decode m_Mo_sortsOf.2.1 70 = .ok (.iload 5, 2) ∧ 70 + 2 = 72 := ⟨by decide +kernel, rfl⟩
theorem d_Mo_sortsOf_72 : decode m_Mo_sortsOf.2.1 72 = .ok (.iconst 3, 1) ∧ 72 + 1 = 73 := ⟨by decide +kernel, rfl⟩
theorem d_Mo_sortsOf_73 : decode m_Mo_sortsOf.2.1 73 = .ok (.iadd, 1) ∧ 73 + 1 = 74 := ⟨by decide +kernel, rfl⟩
theorem d_Mo_sortsOf_74 : decode m_Mo_sortsOf.2.1 74 = .ok (.iaload, 1) ∧ 74 + 1 = 75 := ⟨by decide +kernel, rfl⟩
theorem d_Mo_sortsOf_75 : decode m_Mo_sortsOf.2.1 75 = .ok (.if_icmp .ne 7, 3) ∧ 75 + 3 = 78 ∧ (((75 : Nat) : Int) + (7) = ((82 : Nat) : Int)) := ⟨by decide +kernel, rfl, by decide⟩
theorem d_Mo_sortsOf_78 : decode m_Mo_sortsOf.2.1 78 = .ok (.iconst 1, 1) ∧ 78 + 1 = 79 := ⟨by decide +kernel, rfl⟩
theorem d_Mo_sortsOf_79 : decode m_Mo_sortsOf.2.1 79 = .ok (.goto 4, 3) ∧ (((79 : Nat) : Int) + (4) = ((83 : Nat) : Int)) := ⟨by decide +kernel, by decide⟩
theorem d_Mo_sortsOf_82 : decode m_Mo_sortsOf.2.1 82 = .ok (.iconst 0, 1) ∧ 82 + 1 = 83 := ⟨by decide +kernel, rfl⟩
theorem d_Mo_sortsOf_83 : decode m_Mo_sortsOf.2.1 83 = .ok (.istore 4, 2) ∧ 83 + 2 = 85 := ⟨by decide +kernel, rfl⟩
theorem d_Mo_sortsOf_85 : decode m_Mo_sortsOf.2.1 85 = .ok (.iinc 5 4, 3) ∧ 85 + 3 = 88 := ⟨by decide +kernel, rfl⟩
theorem d_Mo_sortsOf_88 : decode m_Mo_sortsOf.2.1 88 = .ok (.goto (-73), 3) ∧ (((88 : Nat) : Int) + (-73) = ((15 : Nat) : Int)) := ⟨by decide +kernel, by decide⟩
theorem d_Mo_sortsOf_91 : decode m_Mo_sortsOf.2.1 91 = .ok (.iload_n 2, 1) ∧ 91 + 1 = 92 := ⟨by decide +kernel, rfl⟩
theorem d_Mo_sortsOf_92 : decode m_Mo_sortsOf.2.1 92 = .ok (.iload 4, 2) ∧ 92 + 2 = 94 := ⟨by decide +kernel, rfl⟩
theorem d_Mo_sortsOf_94 : decode m_Mo_sortsOf.2.1 94 = .ok (.ifCond .eq 9, 3) ∧ 94 + 3 = 97 ∧ (((94 : Nat) : Int) + (9) = ((103 : Nat) : Int)) := ⟨by decide +kernel, rfl, by decide⟩
theorem d_Mo_sortsOf_97 : decode m_Mo_sortsOf.2.1 97 = .ok (.iconst 1, 1) ∧ 97 + 1 = 98 := ⟨by decide +kernel, rfl⟩
theorem d_Mo_sortsOf_98 : decode m_Mo_sortsOf.2.1 98 = .ok (.iload_n 3, 1) ∧ 98 + 1 = 99 := ⟨by decide +kernel, rfl⟩
theorem d_Mo_sortsOf_99 : decode m_Mo_sortsOf.2.1 99 = .ok (.ishl, 1) ∧ 99 + 1 = 100 := ⟨by decide +kernel, rfl⟩
theorem d_Mo_sortsOf_100 : decode m_Mo_sortsOf.2.1 100 = .ok (.goto 4, 3) ∧ (((100 : Nat) : Int) + (4) = ((104 : Nat) : Int)) := ⟨by decide +kernel, by decide⟩
theorem d_Mo_sortsOf_103 : decode m_Mo_sortsOf.2.1 103 = .ok (.iconst 0, 1) ∧ 103 + 1 = 104 := ⟨by decide +kernel, rfl⟩
theorem d_Mo_sortsOf_104 : decode m_Mo_sortsOf.2.1 104 = .ok (.ior, 1) ∧ 104 + 1 = 105 := ⟨by decide +kernel, rfl⟩
theorem d_Mo_sortsOf_105 : decode m_Mo_sortsOf.2.1 105 = .ok (.istore_n 2, 1) ∧ 105 + 1 = 106 := ⟨by decide +kernel, rfl⟩
theorem d_Mo_sortsOf_106 : decode m_Mo_sortsOf.2.1 106 = .ok (.iinc 3 1, 3) ∧ 106 + 3 = 109 := ⟨by decide +kernel, rfl⟩
theorem d_Mo_sortsOf_109 : decode m_Mo_sortsOf.2.1 109 = .ok (.goto (-105), 3) ∧ (((109 : Nat) : Int) + (-105) = ((4 : Nat) : Int)) := ⟨by decide +kernel, by decide⟩
theorem d_Mo_sortsOf_112 : decode m_Mo_sortsOf.2.1 112 = .ok (.iload_n 2, 1) ∧ 112 + 1 = 113 := ⟨by decide +kernel, rfl⟩
theorem d_Mo_sortsOf_113 : decode m_Mo_sortsOf.2.1 113 = .ok (.ireturn, 1) := by decide +kernel
theorem d_Mo_askOf_0 : decode m_Mo_askOf.2.1 0 = .ok (.aload_n 0, 1) ∧ 0 + 1 = 1 := ⟨by decide +kernel, rfl⟩
theorem d_Mo_askOf_1 : decode m_Mo_askOf.2.1 1 = .ok (.iload_n 1, 1) ∧ 1 + 1 = 2 := ⟨by decide +kernel, rfl⟩
theorem d_Mo_askOf_2 : decode m_Mo_askOf.2.1 2 = .ok (.invokevirtual 275, 3) ∧ 2 + 3 = 5 := ⟨by decide +kernel, rfl⟩
theorem d_Mo_askOf_5 : decode m_Mo_askOf.2.1 5 = .ok (.istore_n 2, 1) ∧ 5 + 1 = 6 := ⟨by decide +kernel, rfl⟩
theorem d_Mo_askOf_6 : decode m_Mo_askOf.2.1 6 = .ok (.iconst (-1), 1) ∧ 6 + 1 = 7 := ⟨by decide +kernel, rfl⟩
theorem d_Mo_askOf_7 : decode m_Mo_askOf.2.1 7 = .ok (.istore_n 3, 1) ∧ 7 + 1 = 8 := ⟨by decide +kernel, rfl⟩
theorem d_Mo_askOf_8 : decode m_Mo_askOf.2.1 8 = .ok (.bipush 6, 2) ∧ 8 + 2 = 10 ∧ (Int8.ofInt 6).toInt32 = Int32.ofInt 6 := ⟨by decide +kernel, rfl, by decide +kernel⟩
theorem d_Mo_askOf_10 : decode m_Mo_askOf.2.1 10 = .ok (.istore 4, 2) ∧ 10 + 2 = 12 := ⟨by decide +kernel, rfl⟩
theorem d_Mo_askOf_12 : decode m_Mo_askOf.2.1 12 = .ok (.bipush (-9), 2) ∧ 12 + 2 = 14 ∧ (Int8.ofInt (-9)).toInt32 = Int32.ofInt (-9) := ⟨by decide +kernel, rfl, by decide +kernel⟩
theorem d_Mo_askOf_14 : decode m_Mo_askOf.2.1 14 = .ok (.istore 5, 2) ∧ 14 + 2 = 16 := ⟨by decide +kernel, rfl⟩
theorem d_Mo_askOf_16 : decode m_Mo_askOf.2.1 16 = .ok (.iload 5, 2) ∧ 16 + 2 = 18 := ⟨by decide +kernel, rfl⟩
theorem d_Mo_askOf_18 : decode m_Mo_askOf.2.1 18 = .ok (.bipush 10, 2) ∧ 18 + 2 = 20 ∧ (Int8.ofInt 10).toInt32 = Int32.ofInt 10 := ⟨by decide +kernel, rfl, by decide +kernel⟩
theorem d_Mo_askOf_20 : decode m_Mo_askOf.2.1 20 = .ok (.if_icmp .ge 128, 3) ∧ 20 + 3 = 23 ∧ (((20 : Nat) : Int) + (128) = ((148 : Nat) : Int)) := ⟨by decide +kernel, rfl, by decide⟩
theorem d_Mo_askOf_23 : decode m_Mo_askOf.2.1 23 = .ok (.iload_n 2, 1) ∧ 23 + 1 = 24 := ⟨by decide +kernel, rfl⟩
theorem d_Mo_askOf_24 : decode m_Mo_askOf.2.1 24 = .ok (.ifCond .eq 124, 3) ∧ 24 + 3 = 27 ∧ (((24 : Nat) : Int) + (124) = ((148 : Nat) : Int)) := ⟨by decide +kernel, rfl, by decide⟩
theorem d_Mo_askOf_27 : decode m_Mo_askOf.2.1 27 = .ok (.iconst 0, 1) ∧ 27 + 1 = 28 := ⟨by decide +kernel, rfl⟩
theorem d_Mo_askOf_28 : decode m_Mo_askOf.2.1 28 = .ok (.istore 6, 2) ∧ 28 + 2 = 30 := ⟨by decide +kernel, rfl⟩
theorem d_Mo_askOf_30 : decode m_Mo_askOf.2.1 30 = .ok (.iconst 0, 1) ∧ 30 + 1 = 31 := ⟨by decide +kernel, rfl⟩
theorem d_Mo_askOf_31 : decode m_Mo_askOf.2.1 31 = .ok (.istore 7, 2) ∧ 31 + 2 = 33 := ⟨by decide +kernel, rfl⟩
theorem d_Mo_askOf_33 : decode m_Mo_askOf.2.1 33 = .ok (.iload 7, 2) ∧ 33 + 2 = 35 := ⟨by decide +kernel, rfl⟩
theorem d_Mo_askOf_35 : decode m_Mo_askOf.2.1 35 = .ok (.iconst 3, 1) ∧ 35 + 1 = 36 := ⟨by decide +kernel, rfl⟩
theorem d_Mo_askOf_36 : decode m_Mo_askOf.2.1 36 = .ok (.if_icmp .ge 73, 3) ∧ 36 + 3 = 39 ∧ (((36 : Nat) : Int) + (73) = ((109 : Nat) : Int)) := ⟨by decide +kernel, rfl, by decide⟩
theorem d_Mo_askOf_39 : decode m_Mo_askOf.2.1 39 = .ok (.iconst 0, 1) ∧ 39 + 1 = 40 := ⟨by decide +kernel, rfl⟩
theorem d_Mo_askOf_40 : decode m_Mo_askOf.2.1 40 = .ok (.istore 8, 2) ∧ 40 + 2 = 42 := ⟨by decide +kernel, rfl⟩
theorem d_Mo_askOf_42 : decode m_Mo_askOf.2.1 42 = .ok (.iconst 0, 1) ∧ 42 + 1 = 43 := ⟨by decide +kernel, rfl⟩
theorem d_Mo_askOf_43 : decode m_Mo_askOf.2.1 43 = .ok (.istore 9, 2) ∧ 43 + 2 = 45 := ⟨by decide +kernel, rfl⟩
theorem d_Mo_askOf_45 : decode m_Mo_askOf.2.1 45 = .ok (.iload 9, 2) ∧ 45 + 2 = 47 := ⟨by decide +kernel, rfl⟩
theorem d_Mo_askOf_47 : decode m_Mo_askOf.2.1 47 = .ok (.iconst 5, 1) ∧ 47 + 1 = 48 := ⟨by decide +kernel, rfl⟩
theorem d_Mo_askOf_48 : decode m_Mo_askOf.2.1 48 = .ok (.if_icmp .ge 39, 3) ∧ 48 + 3 = 51 ∧ (((48 : Nat) : Int) + (39) = ((87 : Nat) : Int)) := ⟨by decide +kernel, rfl, by decide⟩
theorem d_Mo_askOf_51 : decode m_Mo_askOf.2.1 51 = .ok (.iload 8, 2) ∧ 51 + 2 = 53 := ⟨by decide +kernel, rfl⟩
theorem d_Mo_askOf_53 : decode m_Mo_askOf.2.1 53 = .ok (.aload_n 0, 1) ∧ 53 + 1 = 54 := ⟨by decide +kernel, rfl⟩
theorem d_Mo_askOf_54 : decode m_Mo_askOf.2.1 54 = .ok (.iload_n 1, 1) ∧ 54 + 1 = 55 := ⟨by decide +kernel, rfl⟩
theorem d_Mo_askOf_55 : decode m_Mo_askOf.2.1 55 = .ok (.iload 9, 2) ∧ 55 + 2 = 57 := ⟨by decide +kernel, rfl⟩
theorem d_Mo_askOf_57 : decode m_Mo_askOf.2.1 57 = .ok (.iload 5, 2) ∧ 57 + 2 = 59 := ⟨by decide +kernel, rfl⟩
theorem d_Mo_askOf_59 : decode m_Mo_askOf.2.1 59 = .ok (.iconst 0, 1) ∧ 59 + 1 = 60 := ⟨by decide +kernel, rfl⟩
theorem d_Mo_askOf_60 : decode m_Mo_askOf.2.1 60 = .ok (.invokevirtual 311, 3) ∧ 60 + 3 = 63 := ⟨by decide +kernel, rfl⟩
theorem d_Mo_askOf_63 : decode m_Mo_askOf.2.1 63 = .ok (.iload 7, 2) ∧ 63 + 2 = 65 := ⟨by decide +kernel, rfl⟩
theorem d_Mo_askOf_65 : decode m_Mo_askOf.2.1 65 = .ok (.if_icmp .ne 12, 3) ∧ 65 + 3 = 68 ∧ (((65 : Nat) : Int) + (12) = ((77 : Nat) : Int)) := ⟨by decide +kernel, rfl, by decide⟩
theorem d_Mo_askOf_68 : decode m_Mo_askOf.2.1 68 = .ok (.iload_n 2, 1) ∧ 68 + 1 = 69 := ⟨by decide +kernel, rfl⟩
theorem d_Mo_askOf_69 : decode m_Mo_askOf.2.1 69 = .ok (.iload 9, 2) ∧ 69 + 2 = 71 := ⟨by decide +kernel, rfl⟩
theorem d_Mo_askOf_71 : decode m_Mo_askOf.2.1 71 = .ok (.ishr, 1) ∧ 71 + 1 = 72 := ⟨by decide +kernel, rfl⟩
theorem d_Mo_askOf_72 : decode m_Mo_askOf.2.1 72 = .ok (.iconst 1, 1) ∧ 72 + 1 = 73 := ⟨by decide +kernel, rfl⟩
theorem d_Mo_askOf_73 : decode m_Mo_askOf.2.1 73 = .ok (.iand, 1) ∧ 73 + 1 = 74 := ⟨by decide +kernel, rfl⟩
theorem d_Mo_askOf_74 : decode m_Mo_askOf.2.1 74 = .ok (.goto 4, 3) ∧ (((74 : Nat) : Int) + (4) = ((78 : Nat) : Int)) := ⟨by decide +kernel, by decide⟩
theorem d_Mo_askOf_77 : decode m_Mo_askOf.2.1 77 = .ok (.iconst 0, 1) ∧ 77 + 1 = 78 := ⟨by decide +kernel, rfl⟩
theorem d_Mo_askOf_78 : decode m_Mo_askOf.2.1 78 = .ok (.iadd, 1) ∧ 78 + 1 = 79 := ⟨by decide +kernel, rfl⟩
theorem d_Mo_askOf_79 : decode m_Mo_askOf.2.1 79 = .ok (.istore 8, 2) ∧ 79 + 2 = 81 := ⟨by decide +kernel, rfl⟩
theorem d_Mo_askOf_81 : decode m_Mo_askOf.2.1 81 = .ok (.iinc 9 1, 3) ∧ 81 + 3 = 84 := ⟨by decide +kernel, rfl⟩
theorem d_Mo_askOf_84 : decode m_Mo_askOf.2.1 84 = .ok (.goto (-39), 3) ∧ (((84 : Nat) : Int) + (-39) = ((45 : Nat) : Int)) := ⟨by decide +kernel, by decide⟩
theorem d_Mo_askOf_87 : decode m_Mo_askOf.2.1 87 = .ok (.iload 8, 2) ∧ 87 + 2 = 89 := ⟨by decide +kernel, rfl⟩
theorem d_Mo_askOf_89 : decode m_Mo_askOf.2.1 89 = .ok (.iload 6, 2) ∧ 89 + 2 = 91 := ⟨by decide +kernel, rfl⟩
theorem d_Mo_askOf_91 : decode m_Mo_askOf.2.1 91 = .ok (.if_icmp .le 8, 3) ∧ 91 + 3 = 94 ∧ (((91 : Nat) : Int) + (8) = ((99 : Nat) : Int)) := ⟨by decide +kernel, rfl, by decide⟩
theorem d_Mo_askOf_94 : decode m_Mo_askOf.2.1 94 = .ok (.iload 8, 2) ∧ 94 + 2 = 96 := ⟨by decide +kernel, rfl⟩
theorem d_Mo_askOf_96 : decode m_Mo_askOf.2.1 96 = .ok (.goto 5, 3) ∧ (((96 : Nat) : Int) + (5) = ((101 : Nat) : Int)) := ⟨by decide +kernel, by decide⟩
theorem d_Mo_askOf_99 : decode m_Mo_askOf.2.1 99 = .ok (.iload 6, 2) ∧ 99 + 2 = 101 := ⟨by decide +kernel, rfl⟩
theorem d_Mo_askOf_101 : decode m_Mo_askOf.2.1 101 = .ok (.istore 6, 2) ∧ 101 + 2 = 103 := ⟨by decide +kernel, rfl⟩
theorem d_Mo_askOf_103 : decode m_Mo_askOf.2.1 103 = .ok (.iinc 7 1, 3) ∧ 103 + 3 = 106 := ⟨by decide +kernel, rfl⟩
theorem d_Mo_askOf_106 : decode m_Mo_askOf.2.1 106 = .ok (.goto (-73), 3) ∧ (((106 : Nat) : Int) + (-73) = ((33 : Nat) : Int)) := ⟨by decide +kernel, by decide⟩
theorem d_Mo_askOf_109 : decode m_Mo_askOf.2.1 109 = .ok (.iload 6, 2) ∧ 109 + 2 = 111 := ⟨by decide +kernel, rfl⟩
theorem d_Mo_askOf_111 : decode m_Mo_askOf.2.1 111 = .ok (.iload 4, 2) ∧ 111 + 2 = 113 := ⟨by decide +kernel, rfl⟩
theorem d_Mo_askOf_113 : decode m_Mo_askOf.2.1 113 = .ok (.if_icmp .ge 11, 3) ∧ 113 + 3 = 116 ∧ (((113 : Nat) : Int) + (11) = ((124 : Nat) : Int)) := ⟨by decide +kernel, rfl, by decide⟩
theorem d_Mo_askOf_116 : decode m_Mo_askOf.2.1 116 = .ok (.iload 5, 2) ∧ 116 + 2 = 118 := ⟨by decide +kernel, rfl⟩
theorem d_Mo_askOf_118 : decode m_Mo_askOf.2.1 118 = .ok (.bipush 9, 2) ∧ 118 + 2 = 120 ∧ (Int8.ofInt 9).toInt32 = Int32.ofInt 9 := ⟨by decide +kernel, rfl, by decide +kernel⟩
theorem d_Mo_askOf_120 : decode m_Mo_askOf.2.1 120 = .ok (.iadd, 1) ∧ 120 + 1 = 121 := ⟨by decide +kernel, rfl⟩
theorem d_Mo_askOf_121 : decode m_Mo_askOf.2.1 121 = .ok (.goto 4, 3) ∧ (((121 : Nat) : Int) + (4) = ((125 : Nat) : Int)) := ⟨by decide +kernel, by decide⟩
theorem d_Mo_askOf_124 : decode m_Mo_askOf.2.1 124 = .ok (.iload_n 3, 1) ∧ 124 + 1 = 125 := ⟨by decide +kernel, rfl⟩
theorem d_Mo_askOf_125 : decode m_Mo_askOf.2.1 125 = .ok (.istore_n 3, 1) ∧ 125 + 1 = 126 := ⟨by decide +kernel, rfl⟩
theorem d_Mo_askOf_126 : decode m_Mo_askOf.2.1 126 = .ok (.iload 6, 2) ∧ 126 + 2 = 128 := ⟨by decide +kernel, rfl⟩
theorem d_Mo_askOf_128 : decode m_Mo_askOf.2.1 128 = .ok (.iload 4, 2) ∧ 128 + 2 = 130 := ⟨by decide +kernel, rfl⟩
theorem d_Mo_askOf_130 : decode m_Mo_askOf.2.1 130 = .ok (.if_icmp .ge 8, 3) ∧ 130 + 3 = 133 ∧ (((130 : Nat) : Int) + (8) = ((138 : Nat) : Int)) := ⟨by decide +kernel, rfl, by decide⟩
theorem d_Mo_askOf_133 : decode m_Mo_askOf.2.1 133 = .ok (.iload 6, 2) ∧ 133 + 2 = 135 := ⟨by decide +kernel, rfl⟩
theorem d_Mo_askOf_135 : decode m_Mo_askOf.2.1 135 = .ok (.goto 5, 3) ∧ (((135 : Nat) : Int) + (5) = ((140 : Nat) : Int)) := ⟨by decide +kernel, by decide⟩
theorem d_Mo_askOf_138 : decode m_Mo_askOf.2.1 138 = .ok (.iload 4, 2) ∧ 138 + 2 = 140 := ⟨by decide +kernel, rfl⟩
theorem d_Mo_askOf_140 : decode m_Mo_askOf.2.1 140 = .ok (.istore 4, 2) ∧ 140 + 2 = 142 := ⟨by decide +kernel, rfl⟩
theorem d_Mo_askOf_142 : decode m_Mo_askOf.2.1 142 = .ok (.iinc 5 1, 3) ∧ 142 + 3 = 145 := ⟨by decide +kernel, rfl⟩
theorem d_Mo_askOf_145 : decode m_Mo_askOf.2.1 145 = .ok (.goto (-129), 3) ∧ (((145 : Nat) : Int) + (-129) = ((16 : Nat) : Int)) := ⟨by decide +kernel, by decide⟩
theorem d_Mo_askOf_148 : decode m_Mo_askOf.2.1 148 = .ok (.iload_n 3, 1) ∧ 148 + 1 = 149 := ⟨by decide +kernel, rfl⟩
theorem d_Mo_askOf_149 : decode m_Mo_askOf.2.1 149 = .ok (.ireturn, 1) := by decide +kernel
theorem d_Mo_dice_0 : decode m_Mo_dice.2.1 0 = .ok (.iload_n 1, 1) ∧ 0 + 1 = 1 := ⟨by decide +kernel, rfl⟩
theorem d_Mo_dice_1 : decode m_Mo_dice.2.1 1 = .ok (.i2l, 1) ∧ 1 + 1 = 2 := ⟨by decide +kernel, rfl⟩
theorem d_Mo_dice_2 : decode m_Mo_dice.2.1 2 = .ok (.lconst 1, 1) ∧ 2 + 1 = 3 := ⟨by decide +kernel, rfl⟩
theorem d_Mo_dice_3 : decode m_Mo_dice.2.1 3 = .ok (.ldc2_w 290, 3) ∧ 3 + 3 = 6 := ⟨by decide +kernel, rfl⟩
theorem d_Mo_dice_6 : decode m_Mo_dice.2.1 6 = .ok (.invokestatic 80, 3) ∧ 6 + 3 = 9 := ⟨by decide +kernel, rfl⟩
theorem d_Mo_dice_9 : decode m_Mo_dice.2.1 9 = .ok (.ifCond .ne 6, 3) ∧ 9 + 3 = 12 ∧ (((9 : Nat) : Int) + (6) = ((15 : Nat) : Int)) := ⟨by decide +kernel, rfl, by decide⟩
theorem d_Mo_dice_12 : decode m_Mo_dice.2.1 12 = .ok (.bipush (-102), 2) ∧ 12 + 2 = 14 ∧ (Int8.ofInt (-102)).toInt32 = Int32.ofInt (-102) := ⟨by decide +kernel, rfl, by decide +kernel⟩
theorem d_Mo_dice_14 : decode m_Mo_dice.2.1 14 = .ok (.ireturn, 1) := by decide +kernel
theorem d_Mo_dice_15 : decode m_Mo_dice.2.1 15 = .ok (.aload_n 0, 1) ∧ 15 + 1 = 16 := ⟨by decide +kernel, rfl⟩
theorem d_Mo_dice_16 : decode m_Mo_dice.2.1 16 = .ok (.ldc2_w 315, 3) ∧ 16 + 3 = 19 := ⟨by decide +kernel, rfl⟩
theorem d_Mo_dice_19 : decode m_Mo_dice.2.1 19 = .ok (.aload_n 0, 1) ∧ 19 + 1 = 20 := ⟨by decide +kernel, rfl⟩
theorem d_Mo_dice_20 : decode m_Mo_dice.2.1 20 = .ok (.getfield 75, 3) ∧ 20 + 3 = 23 := ⟨by decide +kernel, rfl⟩
theorem d_Mo_dice_23 : decode m_Mo_dice.2.1 23 = .ok (.i2l, 1) ∧ 23 + 1 = 24 := ⟨by decide +kernel, rfl⟩
theorem d_Mo_dice_24 : decode m_Mo_dice.2.1 24 = .ok (.lmul, 1) ∧ 24 + 1 = 25 := ⟨by decide +kernel, rfl⟩
theorem d_Mo_dice_25 : decode m_Mo_dice.2.1 25 = .ok (.ldc2_w 317, 3) ∧ 25 + 3 = 28 := ⟨by decide +kernel, rfl⟩
theorem d_Mo_dice_28 : decode m_Mo_dice.2.1 28 = .ok (.ladd, 1) ∧ 28 + 1 = 29 := ⟨by decide +kernel, rfl⟩
theorem d_Mo_dice_29 : decode m_Mo_dice.2.1 29 = .ok (.ldc2_w 319, 3) ∧ 29 + 3 = 32 := ⟨by decide +kernel, rfl⟩
theorem d_Mo_dice_32 : decode m_Mo_dice.2.1 32 = .ok (.land, 1) ∧ 32 + 1 = 33 := ⟨by decide +kernel, rfl⟩
theorem d_Mo_dice_33 : decode m_Mo_dice.2.1 33 = .ok (.l2i, 1) ∧ 33 + 1 = 34 := ⟨by decide +kernel, rfl⟩
theorem d_Mo_dice_34 : decode m_Mo_dice.2.1 34 = .ok (.putfield 75, 3) ∧ 34 + 3 = 37 := ⟨by decide +kernel, rfl⟩
theorem d_Mo_dice_37 : decode m_Mo_dice.2.1 37 = .ok (.aload_n 0, 1) ∧ 37 + 1 = 38 := ⟨by decide +kernel, rfl⟩
theorem d_Mo_dice_38 : decode m_Mo_dice.2.1 38 = .ok (.getfield 75, 3) ∧ 38 + 3 = 41 := ⟨by decide +kernel, rfl⟩
theorem d_Mo_dice_41 : decode m_Mo_dice.2.1 41 = .ok (.ldc_w 321, 3) ∧ 41 + 3 = 44 := ⟨by decide +kernel, rfl⟩
theorem d_Mo_dice_44 : decode m_Mo_dice.2.1 44 = .ok (.idiv, 1) ∧ 44 + 1 = 45 := ⟨by decide +kernel, rfl⟩
theorem d_Mo_dice_45 : decode m_Mo_dice.2.1 45 = .ok (.iload_n 1, 1) ∧ 45 + 1 = 46 := ⟨by decide +kernel, rfl⟩
theorem d_Mo_dice_46 : decode m_Mo_dice.2.1 46 = .ok (.irem, 1) ∧ 46 + 1 = 47 := ⟨by decide +kernel, rfl⟩
theorem d_Mo_dice_47 : decode m_Mo_dice.2.1 47 = .ok (.ireturn, 1) := by decide +kernel
theorem d_Mo_image_0 : decode m_Mo_image.2.1 0 = .ok (.aload_n 0, 1) ∧ 0 + 1 = 1 := ⟨by decide +kernel, rfl⟩
theorem d_Mo_image_1 : decode m_Mo_image.2.1 1 = .ok (.invokevirtual 213, 3) ∧ 1 + 3 = 4 := ⟨by decide +kernel, rfl⟩
theorem d_Mo_image_4 : decode m_Mo_image.2.1 4 = .ok (.ifCond .eq 6, 3) ∧ 4 + 3 = 7 ∧ (((4 : Nat) : Int) + (6) = ((10 : Nat) : Int)) := ⟨by decide +kernel, rfl, by decide⟩
theorem d_Mo_image_7 : decode m_Mo_image.2.1 7 = .ok (.bipush (-103), 2) ∧ 7 + 2 = 9 ∧ (Int8.ofInt (-103)).toInt32 = Int32.ofInt (-103) := ⟨by decide +kernel, rfl, by decide +kernel⟩
theorem d_Mo_image_9 : decode m_Mo_image.2.1 9 = .ok (.ireturn, 1) := by decide +kernel
theorem d_Mo_image_10 : decode m_Mo_image.2.1 10 = .ok (.aload_n 0, 1) ∧ 10 + 1 = 11 := ⟨by decide +kernel, rfl⟩
theorem d_Mo_image_11 : decode m_Mo_image.2.1 11 = .ok (.getfield 13, 3) ∧ 11 + 3 = 14 := ⟨by decide +kernel, rfl⟩
theorem d_Mo_image_14 : decode m_Mo_image.2.1 14 = .ok (.aload_n 0, 1) ∧ 14 + 1 = 15 := ⟨by decide +kernel, rfl⟩
theorem d_Mo_image_15 : decode m_Mo_image.2.1 15 = .ok (.getfield 53, 3) ∧ 15 + 3 = 18 := ⟨by decide +kernel, rfl⟩
theorem d_Mo_image_18 : decode m_Mo_image.2.1 18 = .ok (.invokestatic 322, 3) ∧ 18 + 3 = 21 := ⟨by decide +kernel, rfl⟩
theorem d_Mo_image_21 : decode m_Mo_image.2.1 21 = .ok (.aload_n 0, 1) ∧ 21 + 1 = 22 := ⟨by decide +kernel, rfl⟩
theorem d_Mo_image_22 : decode m_Mo_image.2.1 22 = .ok (.getfield 16, 3) ∧ 22 + 3 = 25 := ⟨by decide +kernel, rfl⟩
theorem d_Mo_image_25 : decode m_Mo_image.2.1 25 = .ok (.aload_n 0, 1) ∧ 25 + 1 = 26 := ⟨by decide +kernel, rfl⟩
theorem d_Mo_image_26 : decode m_Mo_image.2.1 26 = .ok (.getfield 56, 3) ∧ 26 + 3 = 29 := ⟨by decide +kernel, rfl⟩
theorem d_Mo_image_29 : decode m_Mo_image.2.1 29 = .ok (.invokestatic 322, 3) ∧ 29 + 3 = 32 := ⟨by decide +kernel, rfl⟩
theorem d_Mo_image_32 : decode m_Mo_image.2.1 32 = .ok (.aload_n 0, 1) ∧ 32 + 1 = 33 := ⟨by decide +kernel, rfl⟩
theorem d_Mo_image_33 : decode m_Mo_image.2.1 33 = .ok (.getfield 19, 3) ∧ 33 + 3 = 36 := ⟨by decide +kernel, rfl⟩
theorem d_Mo_image_36 : decode m_Mo_image.2.1 36 = .ok (.aload_n 0, 1) ∧ 36 + 1 = 37 := ⟨by decide +kernel, rfl⟩
theorem d_Mo_image_37 : decode m_Mo_image.2.1 37 = .ok (.getfield 59, 3) ∧ 37 + 3 = 40 := ⟨by decide +kernel, rfl⟩
theorem d_Mo_image_40 : decode m_Mo_image.2.1 40 = .ok (.invokestatic 322, 3) ∧ 40 + 3 = 43 := ⟨by decide +kernel, rfl⟩
theorem d_Mo_image_43 : decode m_Mo_image.2.1 43 = .ok (.aload_n 0, 1) ∧ 43 + 1 = 44 := ⟨by decide +kernel, rfl⟩
theorem d_Mo_image_44 : decode m_Mo_image.2.1 44 = .ok (.getfield 22, 3) ∧ 44 + 3 = 47 := ⟨by decide +kernel, rfl⟩
theorem d_Mo_image_47 : decode m_Mo_image.2.1 47 = .ok (.aload_n 0, 1) ∧ 47 + 1 = 48 := ⟨by decide +kernel, rfl⟩
theorem d_Mo_image_48 : decode m_Mo_image.2.1 48 = .ok (.getfield 62, 3) ∧ 48 + 3 = 51 := ⟨by decide +kernel, rfl⟩
theorem d_Mo_image_51 : decode m_Mo_image.2.1 51 = .ok (.invokestatic 322, 3) ∧ 51 + 3 = 54 := ⟨by decide +kernel, rfl⟩
theorem d_Mo_image_54 : decode m_Mo_image.2.1 54 = .ok (.aload_n 0, 1) ∧ 54 + 1 = 55 := ⟨by decide +kernel, rfl⟩
theorem d_Mo_image_55 : decode m_Mo_image.2.1 55 = .ok (.getfield 50, 3) ∧ 55 + 3 = 58 := ⟨by decide +kernel, rfl⟩
theorem d_Mo_image_58 : decode m_Mo_image.2.1 58 = .ok (.aload_n 0, 1) ∧ 58 + 1 = 59 := ⟨by decide +kernel, rfl⟩
theorem d_Mo_image_59 : decode m_Mo_image.2.1 59 = .ok (.getfield 65, 3) ∧ 59 + 3 = 62 := ⟨by decide +kernel, rfl⟩
theorem d_Mo_image_62 : decode m_Mo_image.2.1 62 = .ok (.invokestatic 322, 3) ∧ 62 + 3 = 65 := ⟨by decide +kernel, rfl⟩
theorem d_Mo_image_65 : decode m_Mo_image.2.1 65 = .ok (.aload_n 0, 1) ∧ 65 + 1 = 66 := ⟨by decide +kernel, rfl⟩
theorem d_Mo_image_66 : decode m_Mo_image.2.1 66 = .ok (.aload_n 0, 1) ∧ 66 + 1 = 67 := ⟨by decide +kernel, rfl⟩
theorem d_Mo_image_67 : decode m_Mo_image.2.1 67 = .ok (.getfield 103, 3) ∧ 67 + 3 = 70 := ⟨by decide +kernel, rfl⟩
theorem d_Mo_image_70 : decode m_Mo_image.2.1 70 = .ok (.putfield 326, 3) ∧ 70 + 3 = 73 := ⟨by decide +kernel, rfl⟩
theorem d_Mo_image_73 : decode m_Mo_image.2.1 73 = .ok (.aload_n 0, 1) ∧ 73 + 1 = 74 := ⟨by decide +kernel, rfl⟩
theorem d_Mo_image_74 : decode m_Mo_image.2.1 74 = .ok (.aload_n 0, 1) ∧ 74 + 1 = 75 := ⟨by decide +kernel, rfl⟩
theorem d_Mo_image_75 : decode m_Mo_image.2.1 75 = .ok (.getfield 113, 3) ∧ 75 + 3 = 78 := ⟨by decide +kernel, rfl⟩
theorem d_Mo_image_78 : decode m_Mo_image.2.1 78 = .ok (.putfield 329, 3) ∧ 78 + 3 = 81 := ⟨by decide +kernel, rfl⟩
theorem d_Mo_image_81 : decode m_Mo_image.2.1 81 = .ok (.aload_n 0, 1) ∧ 81 + 1 = 82 := ⟨by decide +kernel, rfl⟩
theorem d_Mo_image_82 : decode m_Mo_image.2.1 82 = .ok (.aload_n 0, 1) ∧ 82 + 1 = 83 := ⟨by decide +kernel, rfl⟩
theorem d_Mo_image_83 : decode m_Mo_image.2.1 83 = .ok (.getfield 116, 3) ∧ 83 + 3 = 86 := ⟨by decide +kernel, rfl⟩
theorem d_Mo_image_86 : decode m_Mo_image.2.1 86 = .ok (.putfield 68, 3) ∧ 86 + 3 = 89 := ⟨by decide +kernel, rfl⟩
theorem d_Mo_image_89 : decode m_Mo_image.2.1 89 = .ok (.aload_n 0, 1) ∧ 89 + 1 = 90 := ⟨by decide +kernel, rfl⟩
theorem d_Mo_image_90 : decode m_Mo_image.2.1 90 = .ok (.getfield 103, 3) ∧ 90 + 3 = 93 := ⟨by decide +kernel, rfl⟩
theorem d_Mo_image_93 : decode m_Mo_image.2.1 93 = .ok (.ireturn, 1) := by decide +kernel
theorem d_Mo_restore_0 : decode m_Mo_restore.2.1 0 = .ok (.aload_n 0, 1) ∧ 0 + 1 = 1 := ⟨by decide +kernel, rfl⟩
theorem d_Mo_restore_1 : decode m_Mo_restore.2.1 1 = .ok (.getfield 68, 3) ∧ 1 + 3 = 4 := ⟨by decide +kernel, rfl⟩
theorem d_Mo_restore_4 : decode m_Mo_restore.2.1 4 = .ok (.aload_n 0, 1) ∧ 4 + 1 = 5 := ⟨by decide +kernel, rfl⟩
theorem d_Mo_restore_5 : decode m_Mo_restore.2.1 5 = .ok (.getfield 116, 3) ∧ 5 + 3 = 8 := ⟨by decide +kernel, rfl⟩
theorem d_Mo_restore_8 : decode m_Mo_restore.2.1 8 = .ok (.if_icmp .eq 6, 3) ∧ 8 + 3 = 11 ∧ (((8 : Nat) : Int) + (6) = ((14 : Nat) : Int)) := ⟨by decide +kernel, rfl, by decide⟩
theorem d_Mo_restore_11 : decode m_Mo_restore.2.1 11 = .ok (.bipush (-103), 2) ∧ 11 + 2 = 13 ∧ (Int8.ofInt (-103)).toInt32 = Int32.ofInt (-103) := ⟨by decide +kernel, rfl, by decide +kernel⟩
theorem d_Mo_restore_13 : decode m_Mo_restore.2.1 13 = .ok (.ireturn, 1) := by decide +kernel
theorem d_Mo_restore_14 : decode m_Mo_restore.2.1 14 = .ok (.aload_n 0, 1) ∧ 14 + 1 = 15 := ⟨by decide +kernel, rfl⟩
theorem d_Mo_restore_15 : decode m_Mo_restore.2.1 15 = .ok (.getfield 53, 3) ∧ 15 + 3 = 18 := ⟨by decide +kernel, rfl⟩
theorem d_Mo_restore_18 : decode m_Mo_restore.2.1 18 = .ok (.aload_n 0, 1) ∧ 18 + 1 = 19 := ⟨by decide +kernel, rfl⟩
theorem d_Mo_restore_19 : decode m_Mo_restore.2.1 19 = .ok (.getfield 13, 3) ∧ 19 + 3 = 22 := ⟨by decide +kernel, rfl⟩
theorem d_Mo_restore_22 : decode m_Mo_restore.2.1 22 = .ok (.invokestatic 322, 3) ∧ 22 + 3 = 25 := ⟨by decide +kernel, rfl⟩
theorem d_Mo_restore_25 : decode m_Mo_restore.2.1 25 = .ok (.aload_n 0, 1) ∧ 25 + 1 = 26 := ⟨by decide +kernel, rfl⟩
theorem d_Mo_restore_26 : decode m_Mo_restore.2.1 26 = .ok (.getfield 56, 3) ∧ 26 + 3 = 29 := ⟨by decide +kernel, rfl⟩
theorem d_Mo_restore_29 : decode m_Mo_restore.2.1 29 = .ok (.aload_n 0, 1) ∧ 29 + 1 = 30 := ⟨by decide +kernel, rfl⟩
theorem d_Mo_restore_30 : decode m_Mo_restore.2.1 30 = .ok (.getfield 16, 3) ∧ 30 + 3 = 33 := ⟨by decide +kernel, rfl⟩
theorem d_Mo_restore_33 : decode m_Mo_restore.2.1 33 = .ok (.invokestatic 322, 3) ∧ 33 + 3 = 36 := ⟨by decide +kernel, rfl⟩
theorem d_Mo_restore_36 : decode m_Mo_restore.2.1 36 = .ok (.aload_n 0, 1) ∧ 36 + 1 = 37 := ⟨by decide +kernel, rfl⟩
theorem d_Mo_restore_37 : decode m_Mo_restore.2.1 37 = .ok (.getfield 59, 3) ∧ 37 + 3 = 40 := ⟨by decide +kernel, rfl⟩
theorem d_Mo_restore_40 : decode m_Mo_restore.2.1 40 = .ok (.aload_n 0, 1) ∧ 40 + 1 = 41 := ⟨by decide +kernel, rfl⟩
theorem d_Mo_restore_41 : decode m_Mo_restore.2.1 41 = .ok (.getfield 19, 3) ∧ 41 + 3 = 44 := ⟨by decide +kernel, rfl⟩
theorem d_Mo_restore_44 : decode m_Mo_restore.2.1 44 = .ok (.invokestatic 322, 3) ∧ 44 + 3 = 47 := ⟨by decide +kernel, rfl⟩
theorem d_Mo_restore_47 : decode m_Mo_restore.2.1 47 = .ok (.aload_n 0, 1) ∧ 47 + 1 = 48 := ⟨by decide +kernel, rfl⟩
theorem d_Mo_restore_48 : decode m_Mo_restore.2.1 48 = .ok (.getfield 62, 3) ∧ 48 + 3 = 51 := ⟨by decide +kernel, rfl⟩
theorem d_Mo_restore_51 : decode m_Mo_restore.2.1 51 = .ok (.aload_n 0, 1) ∧ 51 + 1 = 52 := ⟨by decide +kernel, rfl⟩
theorem d_Mo_restore_52 : decode m_Mo_restore.2.1 52 = .ok (.getfield 22, 3) ∧ 52 + 3 = 55 := ⟨by decide +kernel, rfl⟩
theorem d_Mo_restore_55 : decode m_Mo_restore.2.1 55 = .ok (.invokestatic 322, 3) ∧ 55 + 3 = 58 := ⟨by decide +kernel, rfl⟩
theorem d_Mo_restore_58 : decode m_Mo_restore.2.1 58 = .ok (.aload_n 0, 1) ∧ 58 + 1 = 59 := ⟨by decide +kernel, rfl⟩
theorem d_Mo_restore_59 : decode m_Mo_restore.2.1 59 = .ok (.getfield 65, 3) ∧ 59 + 3 = 62 := ⟨by decide +kernel, rfl⟩
theorem d_Mo_restore_62 : decode m_Mo_restore.2.1 62 = .ok (.aload_n 0, 1) ∧ 62 + 1 = 63 := ⟨by decide +kernel, rfl⟩
theorem d_Mo_restore_63 : decode m_Mo_restore.2.1 63 = .ok (.getfield 50, 3) ∧ 63 + 3 = 66 := ⟨by decide +kernel, rfl⟩
theorem d_Mo_restore_66 : decode m_Mo_restore.2.1 66 = .ok (.invokestatic 322, 3) ∧ 66 + 3 = 69 := ⟨by decide +kernel, rfl⟩
theorem d_Mo_restore_69 : decode m_Mo_restore.2.1 69 = .ok (.aload_n 0, 1) ∧ 69 + 1 = 70 := ⟨by decide +kernel, rfl⟩
theorem d_Mo_restore_70 : decode m_Mo_restore.2.1 70 = .ok (.aload_n 0, 1) ∧ 70 + 1 = 71 := ⟨by decide +kernel, rfl⟩
theorem d_Mo_restore_71 : decode m_Mo_restore.2.1 71 = .ok (.getfield 326, 3) ∧ 71 + 3 = 74 := ⟨by decide +kernel, rfl⟩
theorem d_Mo_restore_74 : decode m_Mo_restore.2.1 74 = .ok (.putfield 103, 3) ∧ 74 + 3 = 77 := ⟨by decide +kernel, rfl⟩
theorem d_Mo_restore_77 : decode m_Mo_restore.2.1 77 = .ok (.aload_n 0, 1) ∧ 77 + 1 = 78 := ⟨by decide +kernel, rfl⟩
theorem d_Mo_restore_78 : decode m_Mo_restore.2.1 78 = .ok (.aload_n 0, 1) ∧ 78 + 1 = 79 := ⟨by decide +kernel, rfl⟩
theorem d_Mo_restore_79 : decode m_Mo_restore.2.1 79 = .ok (.getfield 329, 3) ∧ 79 + 3 = 82 := ⟨by decide +kernel, rfl⟩
theorem d_Mo_restore_82 : decode m_Mo_restore.2.1 82 = .ok (.putfield 113, 3) ∧ 82 + 3 = 85 := ⟨by decide +kernel, rfl⟩
theorem d_Mo_restore_85 : decode m_Mo_restore.2.1 85 = .ok (.aload_n 0, 1) ∧ 85 + 1 = 86 := ⟨by decide +kernel, rfl⟩
theorem d_Mo_restore_86 : decode m_Mo_restore.2.1 86 = .ok (.iconst 1, 1) ∧ 86 + 1 = 87 := ⟨by decide +kernel, rfl⟩
theorem d_Mo_restore_87 : decode m_Mo_restore.2.1 87 = .ok (.putfield 119, 3) ∧ 87 + 3 = 90 := ⟨by decide +kernel, rfl⟩
theorem d_Mo_restore_90 : decode m_Mo_restore.2.1 90 = .ok (.aload_n 0, 1) ∧ 90 + 1 = 91 := ⟨by decide +kernel, rfl⟩
theorem d_Mo_restore_91 : decode m_Mo_restore.2.1 91 = .ok (.getfield 103, 3) ∧ 91 + 3 = 94 := ⟨by decide +kernel, rfl⟩
theorem d_Mo_restore_94 : decode m_Mo_restore.2.1 94 = .ok (.ireturn, 1) := by decide +kernel
theorem d_Mo_sectionsAll_0 : decode m_Mo_sectionsAll.2.1 0 = .ok (.iconst 0, 1) ∧ 0 + 1 = 1 := ⟨by decide +kernel, rfl⟩
theorem d_Mo_sectionsAll_1 : decode m_Mo_sectionsAll.2.1 1 = .ok (.istore_n 1, 1) ∧ 1 + 1 = 2 := ⟨by decide +kernel, rfl⟩
theorem d_Mo_sectionsAll_2 : decode m_Mo_sectionsAll.2.1 2 = .ok (.iconst 0, 1) ∧ 2 + 1 = 3 := ⟨by decide +kernel, rfl⟩
theorem d_Mo_sectionsAll_3 : decode m_Mo_sectionsAll.2.1 3 = .ok (.istore_n 2, 1) ∧ 3 + 1 = 4 := ⟨by decide +kernel, rfl⟩
theorem d_Mo_sectionsAll_4 : decode m_Mo_sectionsAll.2.1 4 = .ok (.iload_n 2, 1) ∧ 4 + 1 = 5 := ⟨by decide +kernel, rfl⟩
theorem d_Mo_sectionsAll_5 : decode m_Mo_sectionsAll.2.1 5 = .ok (.aload_n 0, 1) ∧ 5 + 1 = 6 := ⟨by decide +kernel, rfl⟩
theorem d_Mo_sectionsAll_6 : decode m_Mo_sectionsAll.2.1 6 = .ok (.getfield 184, 3) ∧ 6 + 3 = 9 := ⟨by decide +kernel, rfl⟩
theorem d_Mo_sectionsAll_9 : decode m_Mo_sectionsAll.2.1 9 = .ok (.if_icmp .ge 18, 3) ∧ 9 + 3 = 12 ∧ (((9 : Nat) : Int) + (18) = ((27 : Nat) : Int)) := ⟨by decide +kernel, rfl, by decide⟩
theorem d_Mo_sectionsAll_12 : decode m_Mo_sectionsAll.2.1 12 = .ok (.iload_n 1, 1) ∧ 12 + 1 = 13 := ⟨by decide +kernel, rfl⟩
theorem d_Mo_sectionsAll_13 : decode m_Mo_sectionsAll.2.1 13 = .ok (.aload_n 0, 1) ∧ 13 + 1 = 14 := ⟨by decide +kernel, rfl⟩
theorem d_Mo_sectionsAll_14 : decode m_Mo_sectionsAll.2.1 14 = .ok (.getfield 41, 3) ∧ 14 + 3 = 17 := ⟨by decide +kernel, rfl⟩
theorem d_Mo_sectionsAll_17 : decode m_Mo_sectionsAll.2.1 17 = .ok (.iload_n 2, 1) ∧ 17 + 1 = 18 := ⟨by decide +kernel, rfl⟩
theorem d_Mo_sectionsAll_18 : decode m_Mo_sectionsAll.2.1 18 = .ok (.iaload, 1) ∧ 18 + 1 = 19 := ⟨by decide +kernel, rfl⟩
theorem d_Mo_sectionsAll_19 : decode m_Mo_sectionsAll.2.1 19 = .ok (.iadd, 1) ∧ 19 + 1 = 20 := ⟨by decide +kernel, rfl⟩
theorem d_Mo_sectionsAll_20 : decode m_Mo_sectionsAll.2.1 20 = .ok (.istore_n 1, 1) ∧ 20 + 1 = 21 := ⟨by decide +kernel, rfl⟩
theorem d_Mo_sectionsAll_21 : decode m_Mo_sectionsAll.2.1 21 = .ok (.iinc 2 1, 3) ∧ 21 + 3 = 24 := ⟨by decide +kernel, rfl⟩
theorem d_Mo_sectionsAll_24 : decode m_Mo_sectionsAll.2.1 24 = .ok (.goto (-20), 3) ∧ (((24 : Nat) : Int) + (-20) = ((4 : Nat) : Int)) := ⟨by decide +kernel, by decide⟩
theorem d_Mo_sectionsAll_27 : decode m_Mo_sectionsAll.2.1 27 = .ok (.iload_n 1, 1) ∧ 27 + 1 = 28 := ⟨by decide +kernel, rfl⟩
theorem d_Mo_sectionsAll_28 : decode m_Mo_sectionsAll.2.1 28 = .ok (.ireturn, 1) := by decide +kernel
theorem d_Mo_countPlane_0 : decode m_Mo_countPlane.2.1 0 = .ok (.aload_n 0, 1) ∧ 0 + 1 = 1 := ⟨by decide +kernel, rfl⟩
theorem d_Mo_countPlane_1 : decode m_Mo_countPlane.2.1 1 = .ok (.invokevirtual 213, 3) ∧ 1 + 3 = 4 := ⟨by decide +kernel, rfl⟩
theorem d_Mo_countPlane_4 : decode m_Mo_countPlane.2.1 4 = .ok (.ifCond .eq 5, 3) ∧ 4 + 3 = 7 ∧ (((4 : Nat) : Int) + (5) = ((9 : Nat) : Int)) := ⟨by decide +kernel, rfl, by decide⟩
theorem d_Mo_countPlane_7 : decode m_Mo_countPlane.2.1 7 = .ok (.iconst 0, 1) ∧ 7 + 1 = 8 := ⟨by decide +kernel, rfl⟩
theorem d_Mo_countPlane_8 : decode m_Mo_countPlane.2.1 8 = .ok (.ireturn, 1) := by decide +kernel
theorem d_Mo_countPlane_9 : decode m_Mo_countPlane.2.1 9 = .ok (.aload_n 0, 1) ∧ 9 + 1 = 10 := ⟨by decide +kernel, rfl⟩
theorem d_Mo_countPlane_10 : decode m_Mo_countPlane.2.1 10 = .ok (.invokevirtual 217, 3) ∧ 10 + 3 = 13 := ⟨by decide +kernel, rfl⟩
theorem d_Mo_countPlane_13 : decode m_Mo_countPlane.2.1 13 = .ok (.iload_n 1, 1) ∧ 13 + 1 = 14 := ⟨by decide +kernel, rfl⟩
theorem d_Mo_countPlane_14 : decode m_Mo_countPlane.2.1 14 = .ok (.iconst 1, 1) ∧ 14 + 1 = 15 := ⟨by decide +kernel, rfl⟩
theorem d_Mo_countPlane_15 : decode m_Mo_countPlane.2.1 15 = .ok (.if_icmp .ne 10, 3) ∧ 15 + 3 = 18 ∧ (((15 : Nat) : Int) + (10) = ((25 : Nat) : Int)) := ⟨by decide +kernel, rfl, by decide⟩
theorem d_Mo_countPlane_18 : decode m_Mo_countPlane.2.1 18 = .ok (.aload_n 0, 1) ∧ 18 + 1 = 19 := ⟨by decide +kernel, rfl⟩
theorem d_Mo_countPlane_19 : decode m_Mo_countPlane.2.1 19 = .ok (.getfield 156, 3) ∧ 19 + 3 = 22 := ⟨by decide +kernel, rfl⟩
theorem d_Mo_countPlane_22 : decode m_Mo_countPlane.2.1 22 = .ok (.goto 31, 3) ∧ (((22 : Nat) : Int) + (31) = ((53 : Nat) : Int)) := ⟨by decide +kernel, by decide⟩
theorem d_Mo_countPlane_25 : decode m_Mo_countPlane.2.1 25 = .ok (.iload_n 1, 1) ∧ 25 + 1 = 26 := ⟨by decide +kernel, rfl⟩
theorem d_Mo_countPlane_26 : decode m_Mo_countPlane.2.1 26 = .ok (.iconst 2, 1) ∧ 26 + 1 = 27 := ⟨by decide +kernel, rfl⟩
theorem d_Mo_countPlane_27 : decode m_Mo_countPlane.2.1 27 = .ok (.if_icmp .ne 10, 3) ∧ 27 + 3 = 30 ∧ (((27 : Nat) : Int) + (10) = ((37 : Nat) : Int)) := ⟨by decide +kernel, rfl, by decide⟩
theorem d_Mo_countPlane_30 : decode m_Mo_countPlane.2.1 30 = .ok (.aload_n 0, 1) ∧ 30 + 1 = 31 := ⟨by decide +kernel, rfl⟩
theorem d_Mo_countPlane_31 : decode m_Mo_countPlane.2.1 31 = .ok (.getfield 184, 3) ∧ 31 + 3 = 34 := ⟨by decide +kernel, rfl⟩
theorem d_Mo_countPlane_34 : decode m_Mo_countPlane.2.1 34 = .ok (.goto 19, 3) ∧ (((34 : Nat) : Int) + (19) = ((53 : Nat) : Int)) := ⟨by decide +kernel, by decide⟩
theorem d_Mo_countPlane_37 : decode m_Mo_countPlane.2.1 37 = .ok (.iload_n 1, 1) ∧ 37 + 1 = 38 := ⟨by decide +kernel, rfl⟩
theorem d_Mo_countPlane_38 : decode m_Mo_countPlane.2.1 38 = .ok (.iconst 3, 1) ∧ 38 + 1 = 39 := ⟨by decide +kernel, rfl⟩
theorem d_Mo_countPlane_39 : decode m_Mo_countPlane.2.1 39 = .ok (.if_icmp .ne 10, 3) ∧ 39 + 3 = 42 ∧ (((39 : Nat) : Int) + (10) = ((49 : Nat) : Int)) := ⟨by decide +kernel, rfl, by decide⟩
theorem d_Mo_countPlane_42 : decode m_Mo_countPlane.2.1 42 = .ok (.aload_n 0, 1) ∧ 42 + 1 = 43 := ⟨by decide +kernel, rfl⟩
theorem d_Mo_countPlane_43 : decode m_Mo_countPlane.2.1 43 = .ok (.invokevirtual 272, 3) ∧ 43 + 3 = 46 := ⟨by decide +kernel, rfl⟩
theorem d_Mo_countPlane_46 : decode m_Mo_countPlane.2.1 46 = .ok (.goto 7, 3) ∧ (((46 : Nat) : Int) + (7) = ((53 : Nat) : Int)) := ⟨by decide +kernel, by decide⟩
theorem d_Mo_countPlane_49 : decode m_Mo_countPlane.2.1 49 = .ok (.aload_n 0, 1) ∧ 49 + 1 = 50 := ⟨by decide +kernel, rfl⟩
theorem d_Mo_countPlane_50 : decode m_Mo_countPlane.2.1 50 = .ok (.invokevirtual 332, 3) ∧ 50 + 3 = 53 := ⟨by decide +kernel, rfl⟩
theorem d_Mo_countPlane_53 : decode m_Mo_countPlane.2.1 53 = .ok (.ireturn, 1) := by decide +kernel
theorem d_Mo_countOf_0 : decode m_Mo_countOf.2.1 0 = .ok (.iload_n 1, 1) ∧ 0 + 1 = 1 := ⟨by decide +kernel, rfl⟩
theorem d_Mo_countOf_1 : decode m_Mo_countOf.2.1 1 = .ok (.tableswitch 100 0 10 #[59, 64, 64, 64, 64, 70, 75, 80, 85, 90, 95], 59) := by decide +kernel
theorem d_Mo_countOf_60 : decode m_Mo_countOf.2.1 60 = .ok (.aload_n 0, 1) ∧ 60 + 1 = 61 := ⟨by decide +kernel, rfl⟩
theorem d_Mo_countOf_61 : decode m_Mo_countOf.2.1 61 = .ok (.getfield 103, 3) ∧ 61 + 3 = 64 := ⟨by decide +kernel, rfl⟩
theorem d_Mo_countOf_64 : decode m_Mo_countOf.2.1 64 = .ok (.ireturn, 1) := by decide +kernel
theorem d_Mo_countOf_65 : decode m_Mo_countOf.2.1 65 = .ok (.aload_n 0, 1) ∧ 65 + 1 = 66 := ⟨by decide +kernel, rfl⟩
theorem d_Mo_countOf_66 : decode m_Mo_countOf.2.1 66 = .ok (.iload_n 1, 1) ∧ 66 + 1 = 67 := ⟨by decide +kernel, rfl⟩
theorem d_Mo_countOf_67 : decode m_Mo_countOf.2.1 67 = .ok (.invokevirtual 335, 3) ∧ 67 + 3 = 70 := ⟨by decide +kernel, rfl⟩
theorem d_Mo_countOf_70 : decode m_Mo_countOf.2.1 70 = .ok (.ireturn, 1) := by decide +kernel
theorem d_Mo_countOf_71 : decode m_Mo_countOf.2.1 71 = .ok (.aload_n 0, 1) ∧ 71 + 1 = 72 := ⟨by decide +kernel, rfl⟩
theorem d_Mo_countOf_72 : decode m_Mo_countOf.2.1 72 = .ok (.getfield 113, 3) ∧ 72 + 3 = 75 := ⟨by decide +kernel, rfl⟩
theorem d_Mo_countOf_75 : decode m_Mo_countOf.2.1 75 = .ok (.ireturn, 1) := by decide +kernel
theorem d_Mo_countOf_76 : decode m_Mo_countOf.2.1 76 = .ok (.aload_n 0, 1) ∧ 76 + 1 = 77 := ⟨by decide +kernel, rfl⟩
theorem d_Mo_countOf_77 : decode m_Mo_countOf.2.1 77 = .ok (.getfield 84, 3) ∧ 77 + 3 = 80 := ⟨by decide +kernel, rfl⟩
theorem d_Mo_countOf_80 : decode m_Mo_countOf.2.1 80 = .ok (.ireturn, 1) := by decide +kernel
theorem d_Mo_countOf_81 : decode m_Mo_countOf.2.1 81 = .ok (.aload_n 0, 1) ∧ 81 + 1 = 82 := ⟨by decide +kernel, rfl⟩
theorem d_Mo_countOf_82 : decode m_Mo_countOf.2.1 82 = .ok (.getfield 116, 3) ∧ 82 + 3 = 85 := ⟨by decide +kernel, rfl⟩
theorem d_Mo_countOf_85 : decode m_Mo_countOf.2.1 85 = .ok (.ireturn, 1) := by decide +kernel
theorem d_Mo_countOf_86 : decode m_Mo_countOf.2.1 86 = .ok (.aload_n 0, 1) ∧ 86 + 1 = 87 := ⟨by decide +kernel, rfl⟩
theorem d_Mo_countOf_87 : decode m_Mo_countOf.2.1 87 = .ok (.getfield 263, 3) ∧ 87 + 3 = 90 := ⟨by decide +kernel, rfl⟩
theorem d_Mo_countOf_90 : decode m_Mo_countOf.2.1 90 = .ok (.ireturn, 1) := by decide +kernel
theorem d_Mo_countOf_91 : decode m_Mo_countOf.2.1 91 = .ok (.aload_n 0, 1) ∧ 91 + 1 = 92 := ⟨by decide +kernel, rfl⟩
theorem d_Mo_countOf_92 : decode m_Mo_countOf.2.1 92 = .ok (.getfield 72, 3) ∧ 92 + 3 = 95 := ⟨by decide +kernel, rfl⟩
theorem d_Mo_countOf_95 : decode m_Mo_countOf.2.1 95 = .ok (.ireturn, 1) := by decide +kernel
theorem d_Mo_countOf_96 : decode m_Mo_countOf.2.1 96 = .ok (.aload_n 0, 1) ∧ 96 + 1 = 97 := ⟨by decide +kernel, rfl⟩
theorem d_Mo_countOf_97 : decode m_Mo_countOf.2.1 97 = .ok (.getfield 260, 3) ∧ 97 + 3 = 100 := ⟨by decide +kernel, rfl⟩
theorem d_Mo_countOf_100 : decode m_Mo_countOf.2.1 100 = .ok (.ireturn, 1) := by decide +kernel
theorem d_Mo_countOf_101 : decode m_Mo_countOf.2.1 101 = .ok (.bipush (-102), 2) ∧ 101 + 2 = 103 ∧ (Int8.ofInt (-102)).toInt32 = Int32.ofInt (-102) := ⟨by decide +kernel, rfl, by decide +kernel⟩
theorem d_Mo_countOf_103 : decode m_Mo_countOf.2.1 103 = .ok (.ireturn, 1) := by decide +kernel
theorem d_Mo_count_0 : decode m_Mo_count.2.1 0 = .ok (.aload_n 0, 1) ∧ 0 + 1 = 1 := ⟨by decide +kernel, rfl⟩
theorem d_Mo_count_1 : decode m_Mo_count.2.1 1 = .ok (.iload_n 1, 1) ∧ 1 + 1 = 2 := ⟨by decide +kernel, rfl⟩
theorem d_Mo_count_2 : decode m_Mo_count.2.1 2 = .ok (.invokevirtual 338, 3) ∧ 2 + 3 = 5 := ⟨by decide +kernel, rfl⟩
theorem d_Mo_count_5 : decode m_Mo_count.2.1 5 = .ok (.ireturn, 1) := by decide +kernel
theorem d_Mo_say_0 : decode m_Mo_say.2.1 0 = .ok (.aload_n 0, 1) ∧ 0 + 1 = 1 := ⟨by decide +kernel, rfl⟩
theorem d_Mo_say_1 : decode m_Mo_say.2.1 1 = .ok (.ldc2_w 341, 3) ∧ 1 + 3 = 4 := ⟨by decide +kernel, rfl⟩
theorem d_Mo_say_4 : decode m_Mo_say.2.1 4 = .ok (.aload_n 0, 1) ∧ 4 + 1 = 5 := ⟨by decide +kernel, rfl⟩
theorem d_Mo_say_5 : decode m_Mo_say.2.1 5 = .ok (.getfield 343, 3) ∧ 5 + 3 = 8 := ⟨by decide +kernel, rfl⟩
theorem d_Mo_say_8 : decode m_Mo_say.2.1 8 = .ok (.lmul, 1) ∧ 8 + 1 = 9 := ⟨by decide +kernel, rfl⟩
theorem d_Mo_say_9 : decode m_Mo_say.2.1 9 = .ok (.lload_n 1, 1) ∧ 9 + 1 = 10 := ⟨by decide +kernel, rfl⟩
theorem d_Mo_say_10 : decode m_Mo_say.2.1 10 = .ok (.ladd, 1) ∧ 10 + 1 = 11 := ⟨by decide +kernel, rfl⟩
theorem d_Mo_say_11 : decode m_Mo_say.2.1 11 = .ok (.putfield 343, 3) ∧ 11 + 3 = 14 := ⟨by decide +kernel, rfl⟩
theorem d_Mo_say_14 : decode m_Mo_say.2.1 14 = .ok (.return_, 1) := by decide +kernel
theorem d_Mo_sayStacks_0 : decode m_Mo_sayStacks.2.1 0 = .ok (.iconst 0, 1) ∧ 0 + 1 = 1 := ⟨by decide +kernel, rfl⟩
theorem d_Mo_sayStacks_1 : decode m_Mo_sayStacks.2.1 1 = .ok (.istore_n 1, 1) ∧ 1 + 1 = 2 := ⟨by decide +kernel, rfl⟩
theorem d_Mo_sayStacks_2 : decode m_Mo_sayStacks.2.1 2 = .ok (.iload_n 1, 1) ∧ 2 + 1 = 3 := ⟨by decide +kernel, rfl⟩
theorem d_Mo_sayStacks_3 : decode m_Mo_sayStacks.2.1 3 = .ok (.aload_n 0, 1) ∧ 3 + 1 = 4 := ⟨by decide +kernel, rfl⟩
theorem d_Mo_sayStacks_4 : decode m_Mo_sayStacks.2.1 4 = .ok (.getfield 184, 3) ∧ 4 + 3 = 7 := ⟨by decide +kernel, rfl⟩
theorem d_Mo_sayStacks_7 : decode m_Mo_sayStacks.2.1 7 = .ok (.if_icmp .ge 64, 3) ∧ 7 + 3 = 10 ∧ (((7 : Nat) : Int) + (64) = ((71 : Nat) : Int)) := ⟨by decide +kernel, rfl, by decide⟩
theorem d_Mo_sayStacks_10 : decode m_Mo_sayStacks.2.1 10 = .ok (.aload_n 0, 1) ∧ 10 + 1 = 11 := ⟨by decide +kernel, rfl⟩
theorem d_Mo_sayStacks_11 : decode m_Mo_sayStacks.2.1 11 = .ok (.aload_n 0, 1) ∧ 11 + 1 = 12 := ⟨by decide +kernel, rfl⟩
theorem d_Mo_sayStacks_12 : decode m_Mo_sayStacks.2.1 12 = .ok (.iload_n 1, 1) ∧ 12 + 1 = 13 := ⟨by decide +kernel, rfl⟩
theorem d_Mo_sayStacks_13 : decode m_Mo_sayStacks.2.1 13 = .ok (.invokevirtual 210, 3) ∧ 13 + 3 = 16 := ⟨by decide +kernel, rfl⟩
theorem d_Mo_sayStacks_16 : decode m_Mo_sayStacks.2.1 16 = .ok (.i2l, 1) ∧ 16 + 1 = 17 := ⟨by decide +kernel, rfl⟩
theorem d_Mo_sayStacks_17 : decode m_Mo_sayStacks.2.1 17 = .ok (.invokevirtual 347, 3) ∧ 17 + 3 = 20 := ⟨by decide +kernel, rfl⟩
theorem d_Mo_sayStacks_20 : decode m_Mo_sayStacks.2.1 20 = .ok (.iconst 0, 1) ∧ 20 + 1 = 21 := ⟨by decide +kernel, rfl⟩
theorem d_Mo_sayStacks_21 : decode m_Mo_sayStacks.2.1 21 = .ok (.istore_n 2, 1) ∧ 21 + 1 = 22 := ⟨by decide +kernel, rfl⟩
theorem d_Mo_sayStacks_22 : decode m_Mo_sayStacks.2.1 22 = .ok (.iload_n 2, 1) ∧ 22 + 1 = 23 := ⟨by decide +kernel, rfl⟩
theorem d_Mo_sayStacks_23 : decode m_Mo_sayStacks.2.1 23 = .ok (.aload_n 0, 1) ∧ 23 + 1 = 24 := ⟨by decide +kernel, rfl⟩
theorem d_Mo_sayStacks_24 : decode m_Mo_sayStacks.2.1 24 = .ok (.iload_n 1, 1) ∧ 24 + 1 = 25 := ⟨by decide +kernel, rfl⟩
theorem d_Mo_sayStacks_25 : decode m_Mo_sayStacks.2.1 25 = .ok (.invokevirtual 210, 3) ∧ 25 + 3 = 28 := ⟨by decide +kernel, rfl⟩
theorem d_Mo_sayStacks_28 : decode m_Mo_sayStacks.2.1 28 = .ok (.if_icmp .ge 37, 3) ∧ 28 + 3 = 31 ∧ (((28 : Nat) : Int) + (37) = ((65 : Nat) : Int)) := ⟨by decide +kernel, rfl, by decide⟩
theorem d_Mo_sayStacks_31 : decode m_Mo_sayStacks.2.1 31 = .ok (.iconst 0, 1) ∧ 31 + 1 = 32 := ⟨by decide +kernel, rfl⟩
theorem d_Mo_sayStacks_32 : decode m_Mo_sayStacks.2.1 32 = .ok (.istore_n 3, 1) ∧ 32 + 1 = 33 := ⟨by decide +kernel, rfl⟩
theorem d_Mo_sayStacks_33 : decode m_Mo_sayStacks.2.1 33 = .ok (.iload_n 3, 1) ∧ 33 + 1 = 34 := ⟨by decide +kernel, rfl⟩
theorem d_Mo_sayStacks_34 : decode m_Mo_sayStacks.2.1 34 = .ok (.aload_n 0, 1) ∧ 34 + 1 = 35 := ⟨by decide +kernel, rfl⟩
theorem d_Mo_sayStacks_35 : decode m_Mo_sayStacks.2.1 35 = .ok (.getfield 103, 3) ∧ 35 + 3 = 38 := ⟨by decide +kernel, rfl⟩
theorem d_Mo_sayStacks_38 : decode m_Mo_sayStacks.2.1 38 = .ok (.if_icmp .ge 21, 3) ∧ 38 + 3 = 41 ∧ (((38 : Nat) : Int) + (21) = ((59 : Nat) : Int)) := ⟨by decide +kernel, rfl, by decide⟩
theorem d_Mo_sayStacks_41 : decode m_Mo_sayStacks.2.1 41 = .ok (.aload_n 0, 1) ∧ 41 + 1 = 42 := ⟨by decide +kernel, rfl⟩
theorem d_Mo_sayStacks_42 : decode m_Mo_sayStacks.2.1 42 = .ok (.aload_n 0, 1) ∧ 42 + 1 = 43 := ⟨by decide +kernel, rfl⟩
theorem d_Mo_sayStacks_43 : decode m_Mo_sayStacks.2.1 43 = .ok (.iload_n 1, 1) ∧ 43 + 1 = 44 := ⟨by decide +kernel, rfl⟩
theorem d_Mo_sayStacks_44 : decode m_Mo_sayStacks.2.1 44 = .ok (.iload_n 2, 1) ∧ 44 + 1 = 45 := ⟨by decide +kernel, rfl⟩
theorem d_Mo_sayStacks_45 : decode m_Mo_sayStacks.2.1 45 = .ok (.iload_n 3, 1) ∧ 45 + 1 = 46 := ⟨by decide +kernel, rfl⟩
theorem d_Mo_sayStacks_46 : decode m_Mo_sayStacks.2.1 46 = .ok (.invokevirtual 230, 3) ∧ 46 + 3 = 49 := ⟨by decide +kernel, rfl⟩
theorem d_Mo_sayStacks_49 : decode m_Mo_sayStacks.2.1 49 = .ok (.i2l, 1) ∧ 49 + 1 = 50 := ⟨by decide +kernel, rfl⟩
theorem d_Mo_sayStacks_50 : decode m_Mo_sayStacks.2.1 50 = .ok (.invokevirtual 347, 3) ∧ 50 + 3 = 53 := ⟨by decide +kernel, rfl⟩
theorem d_Mo_sayStacks_53 : decode m_Mo_sayStacks.2.1 53 = .ok (.iinc 3 1, 3) ∧ 53 + 3 = 56 := ⟨by decide +kernel, rfl⟩
theorem d_Mo_sayStacks_56 : decode m_Mo_sayStacks.2.1 56 = .ok (.goto (-23), 3) ∧ (((56 : Nat) : Int) + (-23) = ((33 : Nat) : Int)) := ⟨by decide +kernel, by decide⟩
theorem d_Mo_sayStacks_59 : decode m_Mo_sayStacks.2.1 59 = .ok (.iinc 2 1, 3) ∧ 59 + 3 = 62 := ⟨by decide +kernel, rfl⟩
theorem d_Mo_sayStacks_62 : decode m_Mo_sayStacks.2.1 62 = .ok (.goto (-40), 3) ∧ (((62 : Nat) : Int) + (-40) = ((22 : Nat) : Int)) := ⟨by decide +kernel, by decide⟩
theorem d_Mo_sayStacks_65 : decode m_Mo_sayStacks.2.1 65 = .ok (.iinc 1 1, 3) ∧ 65 + 3 = 68 := ⟨by decide +kernel, rfl⟩
theorem d_Mo_sayStacks_68 : decode m_Mo_sayStacks.2.1 68 = .ok (.goto (-66), 3) ∧ (((68 : Nat) : Int) + (-66) = ((2 : Nat) : Int)) := ⟨by decide +kernel, by decide⟩
theorem d_Mo_sayStacks_71 : decode m_Mo_sayStacks.2.1 71 = .ok (.return_, 1) := by decide +kernel
theorem d_Mo_digest_0 : decode m_Mo_digest.2.1 0 = .ok (.aload_n 0, 1) ∧ 0 + 1 = 1 := ⟨by decide +kernel, rfl⟩
theorem d_Mo_digest_1 : decode m_Mo_digest.2.1 1 = .ok (.ldc2_w 351, 3) ∧ 1 + 3 = 4 := ⟨by decide +kernel, rfl⟩
theorem d_Mo_digest_4 : decode m_Mo_digest.2.1 4 = .ok (.putfield 343, 3) ∧ 4 + 3 = 7 := ⟨by decide +kernel, rfl⟩
theorem d_Mo_digest_7 : decode m_Mo_digest.2.1 7 = .ok (.iconst 0, 1) ∧ 7 + 1 = 8 := ⟨by decide +kernel, rfl⟩
theorem d_Mo_digest_8 : decode m_Mo_digest.2.1 8 = .ok (.istore_n 1, 1) ∧ 8 + 1 = 9 := ⟨by decide +kernel, rfl⟩
theorem d_Mo_digest_9 : decode m_Mo_digest.2.1 9 = .ok (.iload_n 1, 1) ∧ 9 + 1 = 10 := ⟨by decide +kernel, rfl⟩
theorem d_Mo_digest_10 : decode m_Mo_digest.2.1 10 = .ok (.aload_n 0, 1) ∧ 10 + 1 = 11 := ⟨by decide +kernel, rfl⟩
theorem d_Mo_digest_11 : decode m_Mo_digest.2.1 11 = .ok (.getfield 103, 3) ∧ 11 + 3 = 14 := ⟨by decide +kernel, rfl⟩
theorem d_Mo_digest_14 : decode m_Mo_digest.2.1 14 = .ok (.if_icmp .ge 34, 3) ∧ 14 + 3 = 17 ∧ (((14 : Nat) : Int) + (34) = ((48 : Nat) : Int)) := ⟨by decide +kernel, rfl, by decide⟩
theorem d_Mo_digest_17 : decode m_Mo_digest.2.1 17 = .ok (.iconst 0, 1) ∧ 17 + 1 = 18 := ⟨by decide +kernel, rfl⟩
theorem d_Mo_digest_18 : decode m_Mo_digest.2.1 18 = .ok (.istore_n 2, 1) ∧ 18 + 1 = 19 := ⟨by decide +kernel, rfl⟩
theorem d_Mo_digest_19 : decode m_Mo_digest.2.1 19 = .ok (.iload_n 2, 1) ∧ 19 + 1 = 20 := ⟨by decide +kernel, rfl⟩
theorem d_Mo_digest_20 : decode m_Mo_digest.2.1 20 = .ok (.bipush 6, 2) ∧ 20 + 2 = 22 ∧ (Int8.ofInt 6).toInt32 = Int32.ofInt 6 := ⟨by decide +kernel, rfl, by decide +kernel⟩
theorem d_Mo_digest_22 : decode m_Mo_digest.2.1 22 = .ok (.if_icmp .ge 20, 3) ∧ 22 + 3 = 25 ∧ (((22 : Nat) : Int) + (20) = ((42 : Nat) : Int)) := ⟨by decide +kernel, rfl, by decide⟩
theorem d_Mo_digest_25 : decode m_Mo_digest.2.1 25 = .ok (.aload_n 0, 1) ∧ 25 + 1 = 26 := ⟨by decide +kernel, rfl⟩
theorem d_Mo_digest_26 : decode m_Mo_digest.2.1 26 = .ok (.aload_n 0, 1) ∧ 26 + 1 = 27 := ⟨by decide +kernel, rfl⟩
theorem d_Mo_digest_27 : decode m_Mo_digest.2.1 27 = .ok (.iload_n 1, 1) ∧ 27 + 1 = 28 := ⟨by decide +kernel, rfl⟩
theorem d_Mo_digest_28 : decode m_Mo_digest.2.1 28 = .ok (.iload_n 2, 1) ∧ 28 + 1 = 29 := ⟨by decide +kernel, rfl⟩
theorem d_Mo_digest_29 : decode m_Mo_digest.2.1 29 = .ok (.invokevirtual 281, 3) ∧ 29 + 3 = 32 := ⟨by decide +kernel, rfl⟩
theorem d_Mo_digest_32 : decode m_Mo_digest.2.1 32 = .ok (.i2l, 1) ∧ 32 + 1 = 33 := ⟨by decide +kernel, rfl⟩
theorem d_Mo_digest_33 : decode m_Mo_digest.2.1 33 = .ok (.invokevirtual 347, 3) ∧ 33 + 3 = 36 := ⟨by decide +kernel, rfl⟩
theorem d_Mo_digest_36 : decode m_Mo_digest.2.1 36 = .ok (.iinc 2 1, 3) ∧ 36 + 3 = 39 := ⟨by decide +kernel, rfl⟩
theorem d_Mo_digest_39 : decode m_Mo_digest.2.1 39 = .ok (.goto (-20), 3) ∧ (((39 : Nat) : Int) + (-20) = ((19 : Nat) : Int)) := ⟨by decide +kernel, by decide⟩
theorem d_Mo_digest_42 : decode m_Mo_digest.2.1 42 = .ok (.iinc 1 1, 3) ∧ 42 + 3 = 45 := ⟨by decide +kernel, rfl⟩
theorem d_Mo_digest_45 : decode m_Mo_digest.2.1 45 = .ok (.goto (-36), 3) ∧ (((45 : Nat) : Int) + (-36) = ((9 : Nat) : Int)) := ⟨by decide +kernel, by decide⟩
theorem d_Mo_digest_48 : decode m_Mo_digest.2.1 48 = .ok (.aload_n 0, 1) ∧ 48 + 1 = 49 := ⟨by decide +kernel, rfl⟩
theorem d_Mo_digest_49 : decode m_Mo_digest.2.1 49 = .ok (.invokevirtual 213, 3) ∧ 49 + 3 = 52 := ⟨by decide +kernel, rfl⟩
theorem d_Mo_digest_52 : decode m_Mo_digest.2.1 52 = .ok (.ifCond .ne 64, 3) ∧ 52 + 3 = 55 ∧ (((52 : Nat) : Int) + (64) = ((116 : Nat) : Int)) := ⟨by decide +kernel, rfl, by decide⟩
theorem d_Mo_digest_55 : decode m_Mo_digest.2.1 55 = .ok (.aload_n 0, 1) ∧ 55 + 1 = 56 := ⟨by decide +kernel, rfl⟩
theorem d_Mo_digest_56 : decode m_Mo_digest.2.1 56 = .ok (.invokevirtual 217, 3) ∧ 56 + 3 = 59 := ⟨by decide +kernel, rfl⟩
theorem d_Mo_digest_59 : decode m_Mo_digest.2.1 59 = .ok (.iconst 0, 1) ∧ 59 + 1 = 60 := ⟨by decide +kernel, rfl⟩
theorem d_Mo_digest_60 : decode m_Mo_digest.2.1 60 = .ok (.istore_n 1, 1) ∧ 60 + 1 = 61 := ⟨by decide +kernel, rfl⟩
theorem d_Mo_digest_61 : decode m_Mo_digest.2.1 61 = .ok (.iload_n 1, 1) ∧ 61 + 1 = 62 := ⟨by decide +kernel, rfl⟩
theorem d_Mo_digest_62 : decode m_Mo_digest.2.1 62 = .ok (.aload_n 0, 1) ∧ 62 + 1 = 63 := ⟨by decide +kernel, rfl⟩
theorem d_Mo_digest_63 : decode m_Mo_digest.2.1 63 = .ok (.getfield 156, 3) ∧ 63 + 3 = 66 := ⟨by decide +kernel, rfl⟩
theorem d_Mo_digest_66 : decode m_Mo_digest.2.1 66 = .ok (.if_icmp .ge 33, 3) ∧ 66 + 3 = 69 ∧ (((66 : Nat) : Int) + (33) = ((99 : Nat) : Int)) := ⟨by decide +kernel, rfl, by decide⟩
theorem d_Mo_digest_69 : decode m_Mo_digest.2.1 69 = .ok (.iconst 0, 1) ∧ 69 + 1 = 70 := ⟨by decide +kernel, rfl⟩
theorem d_Mo_digest_70 : decode m_Mo_digest.2.1 70 = .ok (.istore_n 2, 1) ∧ 70 + 1 = 71 := ⟨by decide +kernel, rfl⟩
theorem d_Mo_digest_71 : decode m_Mo_digest.2.1 71 = .ok (.iload_n 2, 1) ∧ 71 + 1 = 72 := ⟨by decide +kernel, rfl⟩
theorem d_Mo_digest_72 : decode m_Mo_digest.2.1 72 = .ok (.iconst 4, 1) ∧ 72 + 1 = 73 := ⟨by decide +kernel, rfl⟩
theorem d_Mo_digest_73 : decode m_Mo_digest.2.1 73 = .ok (.if_icmp .ge 20, 3) ∧ 73 + 3 = 76 ∧ (((73 : Nat) : Int) + (20) = ((93 : Nat) : Int)) := ⟨by decide +kernel, rfl, by decide⟩
theorem d_Mo_digest_76 : decode m_Mo_digest.2.1 76 = .ok (.aload_n 0, 1) ∧ 76 + 1 = 77 := ⟨by decide +kernel, rfl⟩
theorem d_Mo_digest_77 : decode m_Mo_digest.2.1 77 = .ok (.aload_n 0, 1) ∧ 77 + 1 = 78 := ⟨by decide +kernel, rfl⟩
theorem d_Mo_digest_78 : decode m_Mo_digest.2.1 78 = .ok (.iload_n 1, 1) ∧ 78 + 1 = 79 := ⟨by decide +kernel, rfl⟩
theorem d_Mo_digest_79 : decode m_Mo_digest.2.1 79 = .ok (.iload_n 2, 1) ∧ 79 + 1 = 80 := ⟨by decide +kernel, rfl⟩
theorem d_Mo_digest_80 : decode m_Mo_digest.2.1 80 = .ok (.invokevirtual 298, 3) ∧ 80 + 3 = 83 := ⟨by decide +kernel, rfl⟩
theorem d_Mo_digest_83 : decode m_Mo_digest.2.1 83 = .ok (.i2l, 1) ∧ 83 + 1 = 84 := ⟨by decide +kernel, rfl⟩
theorem d_Mo_digest_84 : decode m_Mo_digest.2.1 84 = .ok (.invokevirtual 347, 3) ∧ 84 + 3 = 87 := ⟨by decide +kernel, rfl⟩
theorem d_Mo_digest_87 : decode m_Mo_digest.2.1 87 = .ok (.iinc 2 1, 3) ∧ 87 + 3 = 90 := ⟨by decide +kernel, rfl⟩
theorem d_Mo_digest_90 : decode m_Mo_digest.2.1 90 = .ok (.goto (-19), 3) ∧ (((90 : Nat) : Int) + (-19) = ((71 : Nat) : Int)) := ⟨by decide +kernel, by decide⟩
theorem d_Mo_digest_93 : decode m_Mo_digest.2.1 93 = .ok (.iinc 1 1, 3) ∧ 93 + 3 = 96 := ⟨by decide +kernel, rfl⟩
theorem d_Mo_digest_96 : decode m_Mo_digest.2.1 96 = .ok (.goto (-35), 3) ∧ (((96 : Nat) : Int) + (-35) = ((61 : Nat) : Int)) := ⟨by decide +kernel, by decide⟩
theorem d_Mo_digest_99 : decode m_Mo_digest.2.1 99 = .ok (.aload_n 0, 1) ∧ 99 + 1 = 100 := ⟨by decide +kernel, rfl⟩
theorem d_Mo_digest_100 : decode m_Mo_digest.2.1 100 = .ok (.invokevirtual 353, 3) ∧ 100 + 3 = 103 := ⟨by decide +kernel, rfl⟩
theorem d_Mo_digest_103 : decode m_Mo_digest.2.1 103 = .ok (.aload_n 0, 1) ∧ 103 + 1 = 104 := ⟨by decide +kernel, rfl⟩
theorem d_Mo_digest_104 : decode m_Mo_digest.2.1 104 = .ok (.aload_n 0, 1) ∧ 104 + 1 = 105 := ⟨by decide +kernel, rfl⟩
theorem d_Mo_digest_105 : decode m_Mo_digest.2.1 105 = .ok (.iconst 0, 1) ∧ 105 + 1 = 106 := ⟨by decide +kernel, rfl⟩
theorem d_Mo_digest_106 : decode m_Mo_digest.2.1 106 = .ok (.sipush 1000, 3) ∧ 106 + 3 = 109 ∧ (Int16.ofInt 1000).toInt32 = Int32.ofInt 1000 := ⟨by decide +kernel, rfl, by decide +kernel⟩
theorem d_Mo_digest_109 : decode m_Mo_digest.2.1 109 = .ok (.invokevirtual 269, 3) ∧ 109 + 3 = 112 := ⟨by decide +kernel, rfl⟩
theorem d_Mo_digest_112 : decode m_Mo_digest.2.1 112 = .ok (.i2l, 1) ∧ 112 + 1 = 113 := ⟨by decide +kernel, rfl⟩
theorem d_Mo_digest_113 : decode m_Mo_digest.2.1 113 = .ok (.invokevirtual 347, 3) ∧ 113 + 3 = 116 := ⟨by decide +kernel, rfl⟩
theorem d_Mo_digest_116 : decode m_Mo_digest.2.1 116 = .ok (.iconst 0, 1) ∧ 116 + 1 = 117 := ⟨by decide +kernel, rfl⟩
theorem d_Mo_digest_117 : decode m_Mo_digest.2.1 117 = .ok (.istore_n 1, 1) ∧ 117 + 1 = 118 := ⟨by decide +kernel, rfl⟩
theorem d_Mo_digest_118 : decode m_Mo_digest.2.1 118 = .ok (.iload_n 1, 1) ∧ 118 + 1 = 119 := ⟨by decide +kernel, rfl⟩
theorem d_Mo_digest_119 : decode m_Mo_digest.2.1 119 = .ok (.aload_n 0, 1) ∧ 119 + 1 = 120 := ⟨by decide +kernel, rfl⟩
theorem d_Mo_digest_120 : decode m_Mo_digest.2.1 120 = .ok (.getfield 260, 3) ∧ 120 + 3 = 123 := ⟨by decide +kernel, rfl⟩
theorem d_Mo_digest_123 : decode m_Mo_digest.2.1 123 = .ok (.if_icmp .ge 20, 3) ∧ 123 + 3 = 126 ∧ (((123 : Nat) : Int) + (20) = ((143 : Nat) : Int)) := ⟨by decide +kernel, rfl, by decide⟩
theorem d_Mo_digest_126 : decode m_Mo_digest.2.1 126 = .ok (.aload_n 0, 1) ∧ 126 + 1 = 127 := ⟨by decide +kernel, rfl⟩
theorem d_Mo_digest_127 : decode m_Mo_digest.2.1 127 = .ok (.aload_n 0, 1) ∧ 127 + 1 = 128 := ⟨by decide +kernel, rfl⟩
theorem d_Mo_digest_128 : decode m_Mo_digest.2.1 128 = .ok (.getfield 44, 3) ∧ 128 + 3 = 131 := ⟨by decide +kernel, rfl⟩
theorem d_Mo_digest_131 : decode m_Mo_digest.2.1 131 = .ok (.iload_n 1, 1) ∧ 131 + 1 = 132 := ⟨by decide +kernel, rfl⟩
theorem d_Mo_digest_132 : decode m_Mo_digest.2.1 132 = .ok (.iaload, 1) ∧ 132 + 1 = 133 := ⟨by decide +kernel, rfl⟩
theorem d_Mo_digest_133 : decode m_Mo_digest.2.1 133 = .ok (.i2l, 1) ∧ 133 + 1 = 134 := ⟨by decide +kernel, rfl⟩
theorem d_Mo_digest_134 : decode m_Mo_digest.2.1 134 = .ok (.invokevirtual 347, 3) ∧ 134 + 3 = 137 := ⟨by decide +kernel, rfl⟩
theorem d_Mo_digest_137 : decode m_Mo_digest.2.1 137 = .ok (.iinc 1 1, 3) ∧ 137 + 3 = 140 := ⟨by decide +kernel, rfl⟩
theorem d_Mo_digest_140 : decode m_Mo_digest.2.1 140 = .ok (.goto (-22), 3) ∧ (((140 : Nat) : Int) + (-22) = ((118 : Nat) : Int)) := ⟨by decide +kernel, by decide⟩
theorem d_Mo_digest_143 : decode m_Mo_digest.2.1 143 = .ok (.iconst 0, 1) ∧ 143 + 1 = 144 := ⟨by decide +kernel, rfl⟩
theorem d_Mo_digest_144 : decode m_Mo_digest.2.1 144 = .ok (.istore_n 1, 1) ∧ 144 + 1 = 145 := ⟨by decide +kernel, rfl⟩
theorem d_Mo_digest_145 : decode m_Mo_digest.2.1 145 = .ok (.iload_n 1, 1) ∧ 145 + 1 = 146 := ⟨by decide +kernel, rfl⟩
theorem d_Mo_digest_146 : decode m_Mo_digest.2.1 146 = .ok (.aload_n 0, 1) ∧ 146 + 1 = 147 := ⟨by decide +kernel, rfl⟩
theorem d_Mo_digest_147 : decode m_Mo_digest.2.1 147 = .ok (.getfield 84, 3) ∧ 147 + 3 = 150 := ⟨by decide +kernel, rfl⟩
theorem d_Mo_digest_150 : decode m_Mo_digest.2.1 150 = .ok (.if_icmp .ge 20, 3) ∧ 150 + 3 = 153 ∧ (((150 : Nat) : Int) + (20) = ((170 : Nat) : Int)) := ⟨by decide +kernel, rfl, by decide⟩
theorem d_Mo_digest_153 : decode m_Mo_digest.2.1 153 = .ok (.aload_n 0, 1) ∧ 153 + 1 = 154 := ⟨by decide +kernel, rfl⟩
theorem d_Mo_digest_154 : decode m_Mo_digest.2.1 154 = .ok (.aload_n 0, 1) ∧ 154 + 1 = 155 := ⟨by decide +kernel, rfl⟩
theorem d_Mo_digest_155 : decode m_Mo_digest.2.1 155 = .ok (.getfield 7, 3) ∧ 155 + 3 = 158 := ⟨by decide +kernel, rfl⟩
theorem d_Mo_digest_158 : decode m_Mo_digest.2.1 158 = .ok (.iload_n 1, 1) ∧ 158 + 1 = 159 := ⟨by decide +kernel, rfl⟩
theorem d_Mo_digest_159 : decode m_Mo_digest.2.1 159 = .ok (.iaload, 1) ∧ 159 + 1 = 160 := ⟨by decide +kernel, rfl⟩
theorem d_Mo_digest_160 : decode m_Mo_digest.2.1 160 = .ok (.i2l, 1) ∧ 160 + 1 = 161 := ⟨by decide +kernel, rfl⟩
theorem d_Mo_digest_161 : decode m_Mo_digest.2.1 161 = .ok (.invokevirtual 347, 3) ∧ 161 + 3 = 164 := ⟨by decide +kernel, rfl⟩
theorem d_Mo_digest_164 : decode m_Mo_digest.2.1 164 = .ok (.iinc 1 1, 3) ∧ 164 + 3 = 167 := ⟨by decide +kernel, rfl⟩
theorem d_Mo_digest_167 : decode m_Mo_digest.2.1 167 = .ok (.goto (-22), 3) ∧ (((167 : Nat) : Int) + (-22) = ((145 : Nat) : Int)) := ⟨by decide +kernel, by decide⟩
theorem d_Mo_digest_170 : decode m_Mo_digest.2.1 170 = .ok (.iconst 0, 1) ∧ 170 + 1 = 171 := ⟨by decide +kernel, rfl⟩
theorem d_Mo_digest_171 : decode m_Mo_digest.2.1 171 = .ok (.istore_n 1, 1) ∧ 171 + 1 = 172 := ⟨by decide +kernel, rfl⟩
theorem d_Mo_digest_172 : decode m_Mo_digest.2.1 172 = .ok (.iload_n 1, 1) ∧ 172 + 1 = 173 := ⟨by decide +kernel, rfl⟩
theorem d_Mo_digest_173 : decode m_Mo_digest.2.1 173 = .ok (.bipush 11, 2) ∧ 173 + 2 = 175 ∧ (Int8.ofInt 11).toInt32 = Int32.ofInt 11 := ⟨by decide +kernel, rfl, by decide +kernel⟩
theorem d_Mo_digest_175 : decode m_Mo_digest.2.1 175 = .ok (.if_icmp .ge 19, 3) ∧ 175 + 3 = 178 ∧ (((175 : Nat) : Int) + (19) = ((194 : Nat) : Int)) := ⟨by decide +kernel, rfl, by decide⟩
theorem d_Mo_digest_178 : decode m_Mo_digest.2.1 178 = .ok (.aload_n 0, 1) ∧ 178 + 1 = 179 := ⟨by decide +kernel, rfl⟩
theorem d_Mo_digest_179 : decode m_Mo_digest.2.1 179 = .ok (.aload_n 0, 1) ∧ 179 + 1 = 180 := ⟨by decide +kernel, rfl⟩
theorem d_Mo_digest_180 : decode m_Mo_digest.2.1 180 = .ok (.iload_n 1, 1) ∧ 180 + 1 = 181 := ⟨by decide +kernel, rfl⟩
theorem d_Mo_digest_181 : decode m_Mo_digest.2.1 181 = .ok (.invokevirtual 338, 3) ∧ 181 + 3 = 184 := ⟨by decide +kernel, rfl⟩
theorem d_Mo_digest_184 : decode m_Mo_digest.2.1 184 = .ok (.i2l, 1) ∧ 184 + 1 = 185 := ⟨by decide +kernel, rfl⟩
theorem d_Mo_digest_185 : decode m_Mo_digest.2.1 185 = .ok (.invokevirtual 347, 3) ∧ 185 + 3 = 188 := ⟨by decide +kernel, rfl⟩
theorem d_Mo_digest_188 : decode m_Mo_digest.2.1 188 = .ok (.iinc 1 1, 3) ∧ 188 + 3 = 191 := ⟨by decide +kernel, rfl⟩
theorem d_Mo_digest_191 : decode m_Mo_digest.2.1 191 = .ok (.goto (-19), 3) ∧ (((191 : Nat) : Int) + (-19) = ((172 : Nat) : Int)) := ⟨by decide +kernel, by decide⟩
theorem d_Mo_digest_194 : decode m_Mo_digest.2.1 194 = .ok (.aload_n 0, 1) ∧ 194 + 1 = 195 := ⟨by decide +kernel, rfl⟩
theorem d_Mo_digest_195 : decode m_Mo_digest.2.1 195 = .ok (.getfield 343, 3) ∧ 195 + 3 = 198 := ⟨by decide +kernel, rfl⟩
theorem d_Mo_digest_198 : decode m_Mo_digest.2.1 198 = .ok (.lreturn, 1) := by decide +kernel
