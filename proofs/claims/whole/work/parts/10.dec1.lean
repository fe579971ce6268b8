theorem d_Cu_init_0 : decode m_Cu_init.2.1 0 = .ok (.aload_n 0, 1) ∧ 0 + 1 = 1 := ⟨by decide +kernel, rfl⟩
theorem d_Cu_init_1 : decode m_Cu_init.2.1 1 = .ok (.invokespecial 3, 3) ∧ 1 + 3 = 4 := ⟨by decide +kernel, rfl⟩
theorem d_Cu_init_4 : decode m_Cu_init.2.1 4 = .ok (.aload_n 0, 1) ∧ 4 + 1 = 5 := ⟨by decide +kernel, rfl⟩
theorem d_Cu_init_5 : decode m_Cu_init.2.1 5 = .ok (.iconst 0, 1) ∧ 5 + 1 = 6 := ⟨by decide +kernel, rfl⟩
theorem d_Cu_init_6 : decode m_Cu_init.2.1 6 = .ok (.putfield 9, 3) ∧ 6 + 3 = 9 := ⟨by decide +kernel, rfl⟩
theorem d_Cu_init_9 : decode m_Cu_init.2.1 9 = .ok (.aload_n 0, 1) ∧ 9 + 1 = 10 := ⟨by decide +kernel, rfl⟩
theorem d_Cu_init_10 : decode m_Cu_init.2.1 10 = .ok (.iconst 0, 1) ∧ 10 + 1 = 11 := ⟨by decide +kernel, rfl⟩
theorem d_Cu_init_11 : decode m_Cu_init.2.1 11 = .ok (.putfield 15, 3) ∧ 11 + 3 = 14 := ⟨by decide +kernel, rfl⟩
theorem d_Cu_init_14 : decode m_Cu_init.2.1 14 = .ok (.aload_n 0, 1) ∧ 14 + 1 = 15 := ⟨by decide +kernel, rfl⟩
theorem d_Cu_init_15 : decode m_Cu_init.2.1 15 = .ok (.iconst 0, 1) ∧ 15 + 1 = 16 := ⟨by decide +kernel, rfl⟩
theorem d_Cu_init_16 : decode m_Cu_init.2.1 16 = .ok (.putfield 18, 3) ∧ 16 + 3 = 19 := ⟨by decide +kernel, rfl⟩
theorem d_Cu_init_19 : decode m_Cu_init.2.1 19 = .ok (.aload_n 0, 1) ∧ 19 + 1 = 20 := ⟨by decide +kernel, rfl⟩
theorem d_Cu_init_20 : decode m_Cu_init.2.1 20 = .ok (.iconst 0, 1) ∧ 20 + 1 = 21 := ⟨by decide +kernel, rfl⟩
theorem d_Cu_init_21 : decode m_Cu_init.2.1 21 = .ok (.putfield 21, 3) ∧ 21 + 3 = 24 := ⟨by decide +kernel, rfl⟩
theorem d_Cu_init_24 : decode m_Cu_init.2.1 24 = .ok (.return_, 1) := by decide +kernel
theorem d_Cu_write_0 : decode m_Cu_write.2.1 0 = .ok (.aload_n 0, 1) ∧ 0 + 1 = 1 := ⟨by decide +kernel, rfl⟩
theorem d_Cu_write_1 : decode m_Cu_write.2.1 1 = .ok (.iload_n 1, 1) ∧ 1 + 1 = 2 := ⟨by decide +kernel, rfl⟩
theorem d_Cu_write_2 : decode m_Cu_write.2.1 2 = .ok (.putfield 9, 3) ∧ 2 + 3 = 5 := ⟨by decide +kernel, rfl⟩
theorem d_Cu_write_5 : decode m_Cu_write.2.1 5 = .ok (.aload_n 0, 1) ∧ 5 + 1 = 6 := ⟨by decide +kernel, rfl⟩
theorem d_Cu_write_6 : decode m_Cu_write.2.1 6 = .ok (.iload_n 2, 1) ∧ 6 + 1 = 7 := ⟨by decide +kernel, rfl⟩
theorem d_Cu_write_7 : decode m_Cu_write.2.1 7 = .ok (.putfield 15, 3) ∧ 7 + 3 = 10 := ⟨by decide +kernel, rfl⟩
theorem d_Cu_write_10 : decode m_Cu_write.2.1 10 = .ok (.aload_n 0, 1) ∧ 10 + 1 = 11 := ⟨by decide +kernel, rfl⟩
theorem d_Cu_write_11 : decode m_Cu_write.2.1 11 = .ok (.iload_n 3, 1) ∧ 11 + 1 = 12 := ⟨by decide +kernel, rfl⟩
theorem d_Cu_write_12 : decode m_Cu_write.2.1 12 = .ok (.putfield 18, 3) ∧ 12 + 3 = 15 := ⟨by decide +kernel, rfl⟩
theorem d_Cu_write_15 : decode m_Cu_write.2.1 15 = .ok (.aload_n 0, 1) ∧ 15 + 1 = 16 := ⟨by decide +kernel, rfl⟩
theorem d_Cu_write_16 : decode m_Cu_write.2.1 16 = .ok (.iload 4, 2) ∧ 16 + 2 = 18 := ⟨by decide +kernel, rfl⟩
theorem d_Cu_write_18 : decode m_Cu_write.2.1 18 = .ok (.putfield 21, 3) ∧ 18 + 3 = 21 := ⟨by decide +kernel, rfl⟩
theorem d_Cu_write_21 : decode m_Cu_write.2.1 21 = .ok (.return_, 1) := by decide +kernel
theorem d_Cu_isUpright_0 : decode m_Cu_isUpright.2.1 0 = .ok (.aload_n 0, 1) ∧ 0 + 1 = 1 := ⟨by decide +kernel, rfl⟩
theorem d_Cu_isUpright_1 : decode m_Cu_isUpright.2.1 1 = .ok (.getfield 9, 3) ∧ 1 + 3 = 4 := ⟨by decide +kernel, rfl⟩
theorem d_Cu_isUpright_4 : decode m_Cu_isUpright.2.1 4 = .ok (.iconst 3, 1) ∧ 4 + 1 = 5 := ⟨by decide +kernel, rfl⟩
theorem d_Cu_isUpright_5 : decode m_Cu_isUpright.2.1 5 = .ok (.if_icmp .ne 7, 3) ∧ 5 + 3 = 8 ∧ (((5 : Nat) : Int) + (7) = ((12 : Nat) : Int)) := ⟨by decide +kernel, rfl, by decide⟩
theorem d_Cu_isUpright_8 : decode m_Cu_isUpright.2.1 8 = .ok (.iconst 1, 1) ∧ 8 + 1 = 9 := ⟨by decide +kernel, rfl⟩
theorem d_Cu_isUpright_9 : decode m_Cu_isUpright.2.1 9 = .ok (.goto 4, 3) ∧ (((9 : Nat) : Int) + (4) = ((13 : Nat) : Int)) := ⟨by decide +kernel, by decide⟩
theorem d_Cu_isUpright_12 : decode m_Cu_isUpright.2.1 12 = .ok (.iconst 0, 1) ∧ 12 + 1 = 13 := ⟨by decide +kernel, rfl⟩
theorem d_Cu_isUpright_13 : decode m_Cu_isUpright.2.1 13 = .ok (.ireturn, 1) := by decide +kernel
theorem d_Cu_isSuch_0 : decode m_Cu_isSuch.2.1 0 = .ok (.iload_n 1, 1) ∧ 0 + 1 = 1 := ⟨by decide +kernel, rfl⟩
theorem d_Cu_isSuch_1 : decode m_Cu_isSuch.2.1 1 = .ok (.ifCond .eq 24, 3) ∧ 1 + 3 = 4 ∧ (((1 : Nat) : Int) + (24) = ((25 : Nat) : Int)) := ⟨by decide +kernel, rfl, by decide⟩
theorem d_Cu_isSuch_4 : decode m_Cu_isSuch.2.1 4 = .ok (.iload_n 1, 1) ∧ 4 + 1 = 5 := ⟨by decide +kernel, rfl⟩
theorem d_Cu_isSuch_5 : decode m_Cu_isSuch.2.1 5 = .ok (.aload_n 0, 1) ∧ 5 + 1 = 6 := ⟨by decide +kernel, rfl⟩
theorem d_Cu_isSuch_6 : decode m_Cu_isSuch.2.1 6 = .ok (.getfield 9, 3) ∧ 6 + 3 = 9 := ⟨by decide +kernel, rfl⟩
theorem d_Cu_isSuch_9 : decode m_Cu_isSuch.2.1 9 = .ok (.if_icmp .eq 16, 3) ∧ 9 + 3 = 12 ∧ (((9 : Nat) : Int) + (16) = ((25 : Nat) : Int)) := ⟨by decide +kernel, rfl, by decide⟩
theorem d_Cu_isSuch_12 : decode m_Cu_isSuch.2.1 12 = .ok (.iload_n 1, 1) ∧ 12 + 1 = 13 := ⟨by decide +kernel, rfl⟩
theorem d_Cu_isSuch_13 : decode m_Cu_isSuch.2.1 13 = .ok (.iconst 1, 1) ∧ 13 + 1 = 14 := ⟨by decide +kernel, rfl⟩
theorem d_Cu_isSuch_14 : decode m_Cu_isSuch.2.1 14 = .ok (.if_icmp .ne 15, 3) ∧ 14 + 3 = 17 ∧ (((14 : Nat) : Int) + (15) = ((29 : Nat) : Int)) := ⟨by decide +kernel, rfl, by decide⟩
theorem d_Cu_isSuch_17 : decode m_Cu_isSuch.2.1 17 = .ok (.aload_n 0, 1) ∧ 17 + 1 = 18 := ⟨by decide +kernel, rfl⟩
theorem d_Cu_isSuch_18 : decode m_Cu_isSuch.2.1 18 = .ok (.getfield 9, 3) ∧ 18 + 3 = 21 := ⟨by decide +kernel, rfl⟩
theorem d_Cu_isSuch_21 : decode m_Cu_isSuch.2.1 21 = .ok (.iconst 2, 1) ∧ 21 + 1 = 22 := ⟨by decide +kernel, rfl⟩
theorem d_Cu_isSuch_22 : decode m_Cu_isSuch.2.1 22 = .ok (.if_icmp .ne 7, 3) ∧ 22 + 3 = 25 ∧ (((22 : Nat) : Int) + (7) = ((29 : Nat) : Int)) := ⟨by decide +kernel, rfl, by decide⟩
theorem d_Cu_isSuch_25 : decode m_Cu_isSuch.2.1 25 = .ok (.iconst 1, 1) ∧ 25 + 1 = 26 := ⟨by decide +kernel, rfl⟩
theorem d_Cu_isSuch_26 : decode m_Cu_isSuch.2.1 26 = .ok (.goto 4, 3) ∧ (((26 : Nat) : Int) + (4) = ((30 : Nat) : Int)) := ⟨by decide +kernel, by decide⟩
theorem d_Cu_isSuch_29 : decode m_Cu_isSuch.2.1 29 = .ok (.iconst 0, 1) ∧ 29 + 1 = 30 := ⟨by decide +kernel, rfl⟩
theorem d_Cu_isSuch_30 : decode m_Cu_isSuch.2.1 30 = .ok (.ireturn, 1) := by decide +kernel
theorem d_Cu_squareOf_0 : decode m_Cu_squareOf.2.1 0 = .ok (.iload_n 0, 1) ∧ 0 + 1 = 1 := ⟨by decide +kernel, rfl⟩
theorem d_Cu_squareOf_1 : decode m_Cu_squareOf.2.1 1 = .ok (.ifCond .ne 7, 3) ∧ 1 + 3 = 4 ∧ (((1 : Nat) : Int) + (7) = ((8 : Nat) : Int)) := ⟨by decide +kernel, rfl, by decide⟩
theorem d_Cu_squareOf_4 : decode m_Cu_squareOf.2.1 4 = .ok (.iconst 1, 1) ∧ 4 + 1 = 5 := ⟨by decide +kernel, rfl⟩
theorem d_Cu_squareOf_5 : decode m_Cu_squareOf.2.1 5 = .ok (.goto 13, 3) ∧ (((5 : Nat) : Int) + (13) = ((18 : Nat) : Int)) := ⟨by decide +kernel, by decide⟩
theorem d_Cu_squareOf_8 : decode m_Cu_squareOf.2.1 8 = .ok (.iload_n 0, 1) ∧ 8 + 1 = 9 := ⟨by decide +kernel, rfl⟩
theorem d_Cu_squareOf_9 : decode m_Cu_squareOf.2.1 9 = .ok (.iconst 4, 1) ∧ 9 + 1 = 10 := ⟨by decide +kernel, rfl⟩
theorem d_Cu_squareOf_10 : decode m_Cu_squareOf.2.1 10 = .ok (.if_icmp .ne 7, 3) ∧ 10 + 3 = 13 ∧ (((10 : Nat) : Int) + (7) = ((17 : Nat) : Int)) := ⟨by decide +kernel, rfl, by decide⟩
theorem d_Cu_squareOf_13 : decode m_Cu_squareOf.2.1 13 = .ok (.iconst (-1), 1) ∧ 13 + 1 = 14 := ⟨by decide +kernel, rfl⟩
theorem d_Cu_squareOf_14 : decode m_Cu_squareOf.2.1 14 = .ok (.goto 4, 3) ∧ (((14 : Nat) : Int) + (4) = ((18 : Nat) : Int)) := ⟨by decide +kernel, by decide⟩
theorem d_Cu_squareOf_17 : decode m_Cu_squareOf.2.1 17 = .ok (.iconst 0, 1) ∧ 17 + 1 = 18 := ⟨by decide +kernel, rfl⟩
theorem d_Cu_squareOf_18 : decode m_Cu_squareOf.2.1 18 = .ok (.ireturn, 1) := by decide +kernel
theorem d_Cu_slopeAs_0 : decode m_Cu_slopeAs.2.1 0 = .ok (.iload_n 1, 1) ∧ 0 + 1 = 1 := ⟨by decide +kernel, rfl⟩
theorem d_Cu_slopeAs_1 : decode m_Cu_slopeAs.2.1 1 = .ok (.iconst 2, 1) ∧ 1 + 1 = 2 := ⟨by decide +kernel, rfl⟩
theorem d_Cu_slopeAs_2 : decode m_Cu_slopeAs.2.1 2 = .ok (.if_icmp .ne 7, 3) ∧ 2 + 3 = 5 ∧ (((2 : Nat) : Int) + (7) = ((9 : Nat) : Int)) := ⟨by decide +kernel, rfl, by decide⟩
theorem d_Cu_slopeAs_5 : decode m_Cu_slopeAs.2.1 5 = .ok (.iconst 0, 1) ∧ 5 + 1 = 6 := ⟨by decide +kernel, rfl⟩
theorem d_Cu_slopeAs_6 : decode m_Cu_slopeAs.2.1 6 = .ok (.goto 7, 3) ∧ (((6 : Nat) : Int) + (7) = ((13 : Nat) : Int)) := ⟨by decide +kernel, by decide⟩
theorem d_Cu_slopeAs_9 : decode m_Cu_slopeAs.2.1 9 = .ok (.aload_n 0, 1) ∧ 9 + 1 = 10 := ⟨by decide +kernel, rfl⟩
theorem d_Cu_slopeAs_10 : decode m_Cu_slopeAs.2.1 10 = .ok (.getfield 15, 3) ∧ 10 + 3 = 13 := ⟨by decide +kernel, rfl⟩
theorem d_Cu_slopeAs_13 : decode m_Cu_slopeAs.2.1 13 = .ok (.ireturn, 1) := by decide +kernel
theorem d_Cu_sideAs_0 : decode m_Cu_sideAs.2.1 0 = .ok (.iload_n 1, 1) ∧ 0 + 1 = 1 := ⟨by decide +kernel, rfl⟩
theorem d_Cu_sideAs_1 : decode m_Cu_sideAs.2.1 1 = .ok (.iconst 3, 1) ∧ 1 + 1 = 2 := ⟨by decide +kernel, rfl⟩
theorem d_Cu_sideAs_2 : decode m_Cu_sideAs.2.1 2 = .ok (.if_icmp .ne 12, 3) ∧ 2 + 3 = 5 ∧ (((2 : Nat) : Int) + (12) = ((14 : Nat) : Int)) := ⟨by decide +kernel, rfl, by decide⟩
theorem d_Cu_sideAs_5 : decode m_Cu_sideAs.2.1 5 = .ok (.aload_n 0, 1) ∧ 5 + 1 = 6 := ⟨by decide +kernel, rfl⟩
theorem d_Cu_sideAs_6 : decode m_Cu_sideAs.2.1 6 = .ok (.getfield 18, 3) ∧ 6 + 3 = 9 := ⟨by decide +kernel, rfl⟩
theorem d_Cu_sideAs_9 : decode m_Cu_sideAs.2.1 9 = .ok (.iload_n 2, 1) ∧ 9 + 1 = 10 := ⟨by decide +kernel, rfl⟩
theorem d_Cu_sideAs_10 : decode m_Cu_sideAs.2.1 10 = .ok (.isub, 1) ∧ 10 + 1 = 11 := ⟨by decide +kernel, rfl⟩
theorem d_Cu_sideAs_11 : decode m_Cu_sideAs.2.1 11 = .ok (.goto 26, 3) ∧ (((11 : Nat) : Int) + (26) = ((37 : Nat) : Int)) := ⟨by decide +kernel, by decide⟩
theorem d_Cu_sideAs_14 : decode m_Cu_sideAs.2.1 14 = .ok (.iload_n 1, 1) ∧ 14 + 1 = 15 := ⟨by decide +kernel, rfl⟩
theorem d_Cu_sideAs_15 : decode m_Cu_sideAs.2.1 15 = .ok (.invokestatic 24, 3) ∧ 15 + 3 = 18 := ⟨by decide +kernel, rfl⟩
theorem d_Cu_sideAs_18 : decode m_Cu_sideAs.2.1 18 = .ok (.iload_n 2, 1) ∧ 18 + 1 = 19 := ⟨by decide +kernel, rfl⟩
theorem d_Cu_sideAs_19 : decode m_Cu_sideAs.2.1 19 = .ok (.imul, 1) ∧ 19 + 1 = 20 := ⟨by decide +kernel, rfl⟩
theorem d_Cu_sideAs_20 : decode m_Cu_sideAs.2.1 20 = .ok (.iload_n 2, 1) ∧ 20 + 1 = 21 := ⟨by decide +kernel, rfl⟩
theorem d_Cu_sideAs_21 : decode m_Cu_sideAs.2.1 21 = .ok (.imul, 1) ∧ 21 + 1 = 22 := ⟨by decide +kernel, rfl⟩
theorem d_Cu_sideAs_22 : decode m_Cu_sideAs.2.1 22 = .ok (.aload_n 0, 1) ∧ 22 + 1 = 23 := ⟨by decide +kernel, rfl⟩
theorem d_Cu_sideAs_23 : decode m_Cu_sideAs.2.1 23 = .ok (.iload_n 1, 1) ∧ 23 + 1 = 24 := ⟨by decide +kernel, rfl⟩
theorem d_Cu_sideAs_24 : decode m_Cu_sideAs.2.1 24 = .ok (.invokevirtual 28, 3) ∧ 24 + 3 = 27 := ⟨by decide +kernel, rfl⟩
theorem d_Cu_sideAs_27 : decode m_Cu_sideAs.2.1 27 = .ok (.iload_n 2, 1) ∧ 27 + 1 = 28 := ⟨by decide +kernel, rfl⟩
theorem d_Cu_sideAs_28 : decode m_Cu_sideAs.2.1 28 = .ok (.imul, 1) ∧ 28 + 1 = 29 := ⟨by decide +kernel, rfl⟩
theorem d_Cu_sideAs_29 : decode m_Cu_sideAs.2.1 29 = .ok (.iadd, 1) ∧ 29 + 1 = 30 := ⟨by decide +kernel, rfl⟩
theorem d_Cu_sideAs_30 : decode m_Cu_sideAs.2.1 30 = .ok (.aload_n 0, 1) ∧ 30 + 1 = 31 := ⟨by decide +kernel, rfl⟩
theorem d_Cu_sideAs_31 : decode m_Cu_sideAs.2.1 31 = .ok (.getfield 18, 3) ∧ 31 + 3 = 34 := ⟨by decide +kernel, rfl⟩
theorem d_Cu_sideAs_34 : decode m_Cu_sideAs.2.1 34 = .ok (.iadd, 1) ∧ 34 + 1 = 35 := ⟨by decide +kernel, rfl⟩
theorem d_Cu_sideAs_35 : decode m_Cu_sideAs.2.1 35 = .ok (.iload_n 3, 1) ∧ 35 + 1 = 36 := ⟨by decide +kernel, rfl⟩
theorem d_Cu_sideAs_36 : decode m_Cu_sideAs.2.1 36 = .ok (.isub, 1) ∧ 36 + 1 = 37 := ⟨by decide +kernel, rfl⟩
theorem d_Cu_sideAs_37 : decode m_Cu_sideAs.2.1 37 = .ok (.istore 4, 2) ∧ 37 + 2 = 39 := ⟨by decide +kernel, rfl⟩
theorem d_Cu_sideAs_39 : decode m_Cu_sideAs.2.1 39 = .ok (.iload 4, 2) ∧ 39 + 2 = 41 := ⟨by decide +kernel, rfl⟩
theorem d_Cu_sideAs_41 : decode m_Cu_sideAs.2.1 41 = .ok (.iconst 0, 1) ∧ 41 + 1 = 42 := ⟨by decide +kernel, rfl⟩
theorem d_Cu_sideAs_42 : decode m_Cu_sideAs.2.1 42 = .ok (.invokestatic 31, 3) ∧ 42 + 3 = 45 := ⟨by decide +kernel, rfl⟩
theorem d_Cu_sideAs_45 : decode m_Cu_sideAs.2.1 45 = .ok (.iconst 1, 1) ∧ 45 + 1 = 46 := ⟨by decide +kernel, rfl⟩
theorem d_Cu_sideAs_46 : decode m_Cu_sideAs.2.1 46 = .ok (.iadd, 1) ∧ 46 + 1 = 47 := ⟨by decide +kernel, rfl⟩
theorem d_Cu_sideAs_47 : decode m_Cu_sideAs.2.1 47 = .ok (.ireturn, 1) := by decide +kernel
theorem d_Cu_turnOver_0 : decode m_Cu_turnOver.2.1 0 = .ok (.aload_n 0, 1) ∧ 0 + 1 = 1 := ⟨by decide +kernel, rfl⟩
theorem d_Cu_turnOver_1 : decode m_Cu_turnOver.2.1 1 = .ok (.aload_n 0, 1) ∧ 1 + 1 = 2 := ⟨by decide +kernel, rfl⟩
theorem d_Cu_turnOver_2 : decode m_Cu_turnOver.2.1 2 = .ok (.getfield 15, 3) ∧ 2 + 3 = 5 := ⟨by decide +kernel, rfl⟩
theorem d_Cu_turnOver_5 : decode m_Cu_turnOver.2.1 5 = .ok (.ineg, 1) ∧ 5 + 1 = 6 := ⟨by decide +kernel, rfl⟩
theorem d_Cu_turnOver_6 : decode m_Cu_turnOver.2.1 6 = .ok (.putfield 15, 3) ∧ 6 + 3 = 9 := ⟨by decide +kernel, rfl⟩
theorem d_Cu_turnOver_9 : decode m_Cu_turnOver.2.1 9 = .ok (.aload_n 0, 1) ∧ 9 + 1 = 10 := ⟨by decide +kernel, rfl⟩
theorem d_Cu_turnOver_10 : decode m_Cu_turnOver.2.1 10 = .ok (.invokevirtual 37, 3) ∧ 10 + 3 = 13 := ⟨by decide +kernel, rfl⟩
theorem d_Cu_turnOver_13 : decode m_Cu_turnOver.2.1 13 = .ok (.ifCond .eq 12, 3) ∧ 13 + 3 = 16 ∧ (((13 : Nat) : Int) + (12) = ((25 : Nat) : Int)) := ⟨by decide +kernel, rfl, by decide⟩
theorem d_Cu_turnOver_16 : decode m_Cu_turnOver.2.1 16 = .ok (.aload_n 0, 1) ∧ 16 + 1 = 17 := ⟨by decide +kernel, rfl⟩
theorem d_Cu_turnOver_17 : decode m_Cu_turnOver.2.1 17 = .ok (.aload_n 0, 1) ∧ 17 + 1 = 18 := ⟨by decide +kernel, rfl⟩
theorem d_Cu_turnOver_18 : decode m_Cu_turnOver.2.1 18 = .ok (.getfield 18, 3) ∧ 18 + 3 = 21 := ⟨by decide +kernel, rfl⟩
theorem d_Cu_turnOver_21 : decode m_Cu_turnOver.2.1 21 = .ok (.ineg, 1) ∧ 21 + 1 = 22 := ⟨by decide +kernel, rfl⟩
theorem d_Cu_turnOver_22 : decode m_Cu_turnOver.2.1 22 = .ok (.putfield 18, 3) ∧ 22 + 3 = 25 := ⟨by decide +kernel, rfl⟩
theorem d_Cu_turnOver_25 : decode m_Cu_turnOver.2.1 25 = .ok (.return_, 1) := by decide +kernel
theorem d_Di_init_0 : decode m_Di_init.2.1 0 = .ok (.aload_n 0, 1) ∧ 0 + 1 = 1 := ⟨by decide +kernel, rfl⟩
theorem d_Di_init_1 : decode m_Di_init.2.1 1 = .ok (.invokespecial 1, 3) ∧ 1 + 3 = 4 := ⟨by decide +kernel, rfl⟩
theorem d_Di_init_4 : decode m_Di_init.2.1 4 = .ok (.aload_n 0, 1) ∧ 4 + 1 = 5 := ⟨by decide +kernel, rfl⟩
theorem d_Di_init_5 : decode m_Di_init.2.1 5 = .ok (.lconst 1, 1) ∧ 5 + 1 = 6 := ⟨by decide +kernel, rfl⟩
theorem d_Di_init_6 : decode m_Di_init.2.1 6 = .ok (.putfield 7, 3) ∧ 6 + 3 = 9 := ⟨by decide +kernel, rfl⟩
theorem d_Di_init_9 : decode m_Di_init.2.1 9 = .ok (.return_, 1) := by decide +kernel
theorem d_Di_next_0 : decode m_Di_next.2.1 0 = .ok (.aload_n 0, 1) ∧ 0 + 1 = 1 := ⟨by decide +kernel, rfl⟩
theorem d_Di_next_1 : decode m_Di_next.2.1 1 = .ok (.ldc2_w 13, 3) ∧ 1 + 3 = 4 := ⟨by decide +kernel, rfl⟩
theorem d_Di_next_4 : decode m_Di_next.2.1 4 = .ok (.aload_n 0, 1) ∧ 4 + 1 = 5 := ⟨by decide +kernel, rfl⟩
theorem d_Di_next_5 : decode m_Di_next.2.1 5 = .ok (.getfield 7, 3) ∧ 5 + 3 = 8 := ⟨by decide +kernel, rfl⟩
theorem d_Di_next_8 : decode m_Di_next.2.1 8 = .ok (.lmul, 1) ∧ 8 + 1 = 9 := ⟨by decide +kernel, rfl⟩
theorem d_Di_next_9 : decode m_Di_next.2.1 9 = .ok (.ldc2_w 15, 3) ∧ 9 + 3 = 12 := ⟨by decide +kernel, rfl⟩
theorem d_Di_next_12 : decode m_Di_next.2.1 12 = .ok (.ladd, 1) ∧ 12 + 1 = 13 := ⟨by decide +kernel, rfl⟩
theorem d_Di_next_13 : decode m_Di_next.2.1 13 = .ok (.ldc2_w 17, 3) ∧ 13 + 3 = 16 := ⟨by decide +kernel, rfl⟩
theorem d_Di_next_16 : decode m_Di_next.2.1 16 = .ok (.lrem, 1) ∧ 16 + 1 = 17 := ⟨by decide +kernel, rfl⟩
theorem d_Di_next_17 : decode m_Di_next.2.1 17 = .ok (.putfield 7, 3) ∧ 17 + 3 = 20 := ⟨by decide +kernel, rfl⟩
theorem d_Di_next_20 : decode m_Di_next.2.1 20 = .ok (.iload_n 1, 1) ∧ 20 + 1 = 21 := ⟨by decide +kernel, rfl⟩
theorem d_Di_next_21 : decode m_Di_next.2.1 21 = .ok (.iconst 1, 1) ∧ 21 + 1 = 22 := ⟨by decide +kernel, rfl⟩
theorem d_Di_next_22 : decode m_Di_next.2.1 22 = .ok (.if_icmp .ge 7, 3) ∧ 22 + 3 = 25 ∧ (((22 : Nat) : Int) + (7) = ((29 : Nat) : Int)) := ⟨by decide +kernel, rfl, by decide⟩
theorem d_Di_next_25 : decode m_Di_next.2.1 25 = .ok (.iconst 0, 1) ∧ 25 + 1 = 26 := ⟨by decide +kernel, rfl⟩
theorem d_Di_next_26 : decode m_Di_next.2.1 26 = .ok (.goto 15, 3) ∧ (((26 : Nat) : Int) + (15) = ((41 : Nat) : Int)) := ⟨by decide +kernel, by decide⟩
theorem d_Di_next_29 : decode m_Di_next.2.1 29 = .ok (.aload_n 0, 1) ∧ 29 + 1 = 30 := ⟨by decide +kernel, rfl⟩
theorem d_Di_next_30 : decode m_Di_next.2.1 30 = .ok (.getfield 7, 3) ∧ 30 + 3 = 33 := ⟨by decide +kernel, rfl⟩
theorem d_Di_next_33 : decode m_Di_next.2.1 33 = .ok (.ldc2_w 19, 3) ∧ 33 + 3 = 36 := ⟨by decide +kernel, rfl⟩
theorem d_Di_next_36 : decode m_Di_next.2.1 36 = .ok (.ldiv, 1) ∧ 36 + 1 = 37 := ⟨by decide +kernel, rfl⟩
theorem d_Di_next_37 : decode m_Di_next.2.1 37 = .ok (.iload_n 1, 1) ∧ 37 + 1 = 38 := ⟨by decide +kernel, rfl⟩
theorem d_Di_next_38 : decode m_Di_next.2.1 38 = .ok (.i2l, 1) ∧ 38 + 1 = 39 := ⟨by decide +kernel, rfl⟩
theorem d_Di_next_39 : decode m_Di_next.2.1 39 = .ok (.lrem, 1) ∧ 39 + 1 = 40 := ⟨by decide +kernel, rfl⟩
theorem d_Di_next_40 : decode m_Di_next.2.1 40 = .ok (.l2i, 1) ∧ 40 + 1 = 41 := ⟨by decide +kernel, rfl⟩
theorem d_Di_next_41 : decode m_Di_next.2.1 41 = .ok (.ireturn, 1) := by decide +kernel
theorem d_Ex_sign3_0 : decode m_Ex_sign3.2.1 0 = .ok (.lload_n 0, 1) ∧ 0 + 1 = 1 := ⟨by decide +kernel, rfl⟩
theorem d_Ex_sign3_1 : decode m_Ex_sign3.2.1 1 = .ok (.lconst 0, 1) ∧ 1 + 1 = 2 := ⟨by decide +kernel, rfl⟩
theorem d_Ex_sign3_2 : decode m_Ex_sign3.2.1 2 = .ok (.invokestatic 7, 3) ∧ 2 + 3 = 5 := ⟨by decide +kernel, rfl⟩
theorem d_Ex_sign3_5 : decode m_Ex_sign3.2.1 5 = .ok (.istore 6, 2) ∧ 5 + 2 = 7 := ⟨by decide +kernel, rfl⟩
theorem d_Ex_sign3_7 : decode m_Ex_sign3.2.1 7 = .ok (.lload 4, 2) ∧ 7 + 2 = 9 := ⟨by decide +kernel, rfl⟩
theorem d_Ex_sign3_9 : decode m_Ex_sign3.2.1 9 = .ok (.lconst 0, 1) ∧ 9 + 1 = 10 := ⟨by decide +kernel, rfl⟩
theorem d_Ex_sign3_10 : decode m_Ex_sign3.2.1 10 = .ok (.lcmp, 1) ∧ 10 + 1 = 11 := ⟨by decide +kernel, rfl⟩
theorem d_Ex_sign3_11 : decode m_Ex_sign3.2.1 11 = .ok (.ifCond .ne 7, 3) ∧ 11 + 3 = 14 ∧ (((11 : Nat) : Int) + (7) = ((18 : Nat) : Int)) := ⟨by decide +kernel, rfl, by decide⟩
theorem d_Ex_sign3_14 : decode m_Ex_sign3.2.1 14 = .ok (.iconst 0, 1) ∧ 14 + 1 = 15 := ⟨by decide +kernel, rfl⟩
theorem d_Ex_sign3_15 : decode m_Ex_sign3.2.1 15 = .ok (.goto 8, 3) ∧ (((15 : Nat) : Int) + (8) = ((23 : Nat) : Int)) := ⟨by decide +kernel, by decide⟩
theorem d_Ex_sign3_18 : decode m_Ex_sign3.2.1 18 = .ok (.lload_n 2, 1) ∧ 18 + 1 = 19 := ⟨by decide +kernel, rfl⟩
theorem d_Ex_sign3_19 : decode m_Ex_sign3.2.1 19 = .ok (.lconst 0, 1) ∧ 19 + 1 = 20 := ⟨by decide +kernel, rfl⟩
theorem d_Ex_sign3_20 : decode m_Ex_sign3.2.1 20 = .ok (.invokestatic 7, 3) ∧ 20 + 3 = 23 := ⟨by decide +kernel, rfl⟩
theorem d_Ex_sign3_23 : decode m_Ex_sign3.2.1 23 = .ok (.istore 7, 2) ∧ 23 + 2 = 25 := ⟨by decide +kernel, rfl⟩
theorem d_Ex_sign3_25 : decode m_Ex_sign3.2.1 25 = .ok (.iload 6, 2) ∧ 25 + 2 = 27 := ⟨by decide +kernel, rfl⟩
theorem d_Ex_sign3_27 : decode m_Ex_sign3.2.1 27 = .ok (.ifCond .eq 10, 3) ∧ 27 + 3 = 30 ∧ (((27 : Nat) : Int) + (10) = ((37 : Nat) : Int)) := ⟨by decide +kernel, rfl, by decide⟩
theorem d_Ex_sign3_30 : decode m_Ex_sign3.2.1 30 = .ok (.iload 6, 2) ∧ 30 + 2 = 32 := ⟨by decide +kernel, rfl⟩
theorem d_Ex_sign3_32 : decode m_Ex_sign3.2.1 32 = .ok (.iload 7, 2) ∧ 32 + 2 = 34 := ⟨by decide +kernel, rfl⟩
theorem d_Ex_sign3_34 : decode m_Ex_sign3.2.1 34 = .ok (.if_icmp .ne 6, 3) ∧ 34 + 3 = 37 ∧ (((34 : Nat) : Int) + (6) = ((40 : Nat) : Int)) := ⟨by decide +kernel, rfl, by decide⟩
theorem d_Ex_sign3_37 : decode m_Ex_sign3.2.1 37 = .ok (.iload 7, 2) ∧ 37 + 2 = 39 := ⟨by decide +kernel, rfl⟩
theorem d_Ex_sign3_39 : decode m_Ex_sign3.2.1 39 = .ok (.ireturn, 1) := by decide +kernel
theorem d_Ex_sign3_40 : decode m_Ex_sign3.2.1 40 = .ok (.iload 7, 2) ∧ 40 + 2 = 42 := ⟨by decide +kernel, rfl⟩
theorem d_Ex_sign3_42 : decode m_Ex_sign3.2.1 42 = .ok (.ifCond .ne 8, 3) ∧ 42 + 3 = 45 ∧ (((42 : Nat) : Int) + (8) = ((50 : Nat) : Int)) := ⟨by decide +kernel, rfl, by decide⟩
theorem d_Ex_sign3_45 : decode m_Ex_sign3.2.1 45 = .ok (.iload 6, 2) ∧ 45 + 2 = 47 := ⟨by decide +kernel, rfl⟩
theorem d_Ex_sign3_47 : decode m_Ex_sign3.2.1 47 = .ok (.goto 18, 3) ∧ (((47 : Nat) : Int) + (18) = ((65 : Nat) : Int)) := ⟨by decide +kernel, by decide⟩
theorem d_Ex_sign3_50 : decode m_Ex_sign3.2.1 50 = .ok (.iload 6, 2) ∧ 50 + 2 = 52 := ⟨by decide +kernel, rfl⟩
theorem d_Ex_sign3_52 : decode m_Ex_sign3.2.1 52 = .ok (.lload_n 0, 1) ∧ 52 + 1 = 53 := ⟨by decide +kernel, rfl⟩
theorem d_Ex_sign3_53 : decode m_Ex_sign3.2.1 53 = .ok (.lload_n 0, 1) ∧ 53 + 1 = 54 := ⟨by decide +kernel, rfl⟩
theorem d_Ex_sign3_54 : decode m_Ex_sign3.2.1 54 = .ok (.lmul, 1) ∧ 54 + 1 = 55 := ⟨by decide +kernel, rfl⟩
theorem d_Ex_sign3_55 : decode m_Ex_sign3.2.1 55 = .ok (.lload_n 2, 1) ∧ 55 + 1 = 56 := ⟨by decide +kernel, rfl⟩
theorem d_Ex_sign3_56 : decode m_Ex_sign3.2.1 56 = .ok (.lload_n 2, 1) ∧ 56 + 1 = 57 := ⟨by decide +kernel, rfl⟩
theorem d_Ex_sign3_57 : decode m_Ex_sign3.2.1 57 = .ok (.lmul, 1) ∧ 57 + 1 = 58 := ⟨by decide +kernel, rfl⟩
theorem d_Ex_sign3_58 : decode m_Ex_sign3.2.1 58 = .ok (.lload 4, 2) ∧ 58 + 2 = 60 := ⟨by decide +kernel, rfl⟩
theorem d_Ex_sign3_60 : decode m_Ex_sign3.2.1 60 = .ok (.lmul, 1) ∧ 60 + 1 = 61 := ⟨by decide +kernel, rfl⟩
theorem d_Ex_sign3_61 : decode m_Ex_sign3.2.1 61 = .ok (.invokestatic 7, 3) ∧ 61 + 3 = 64 := ⟨by decide +kernel, rfl⟩
theorem d_Ex_sign3_64 : decode m_Ex_sign3.2.1 64 = .ok (.imul, 1) ∧ 64 + 1 = 65 := ⟨by decide +kernel, rfl⟩
theorem d_Ex_sign3_65 : decode m_Ex_sign3.2.1 65 = .ok (.ireturn, 1) := by decide +kernel
theorem d_Ex_sign5_0 : decode m_Ex_sign5.2.1 0 = .ok (.lload_n 0, 1) ∧ 0 + 1 = 1 := ⟨by decide +kernel, rfl⟩
theorem d_Ex_sign5_1 : decode m_Ex_sign5.2.1 1 = .ok (.lload_n 2, 1) ∧ 1 + 1 = 2 := ⟨by decide +kernel, rfl⟩
theorem d_Ex_sign5_2 : decode m_Ex_sign5.2.1 2 = .ok (.lload 4, 2) ∧ 2 + 2 = 4 := ⟨by decide +kernel, rfl⟩
theorem d_Ex_sign5_4 : decode m_Ex_sign5.2.1 4 = .ok (.invokestatic 13, 3) ∧ 4 + 3 = 7 := ⟨by decide +kernel, rfl⟩
theorem d_Ex_sign5_7 : decode m_Ex_sign5.2.1 7 = .ok (.istore 10, 2) ∧ 7 + 2 = 9 := ⟨by decide +kernel, rfl⟩
theorem d_Ex_sign5_9 : decode m_Ex_sign5.2.1 9 = .ok (.lconst 0, 1) ∧ 9 + 1 = 10 := ⟨by decide +kernel, rfl⟩
theorem d_Ex_sign5_10 : decode m_Ex_sign5.2.1 10 = .ok (.lload 6, 2) ∧ 10 + 2 = 12 := ⟨by decide +kernel, rfl⟩
theorem d_Ex_sign5_12 : decode m_Ex_sign5.2.1 12 = .ok (.lload 8, 2) ∧ 12 + 2 = 14 := ⟨by decide +kernel, rfl⟩
theorem d_Ex_sign5_14 : decode m_Ex_sign5.2.1 14 = .ok (.invokestatic 13, 3) ∧ 14 + 3 = 17 := ⟨by decide +kernel, rfl⟩
theorem d_Ex_sign5_17 : decode m_Ex_sign5.2.1 17 = .ok (.istore 11, 2) ∧ 17 + 2 = 19 := ⟨by decide +kernel, rfl⟩
theorem d_Ex_sign5_19 : decode m_Ex_sign5.2.1 19 = .ok (.iload 10, 2) ∧ 19 + 2 = 21 := ⟨by decide +kernel, rfl⟩
theorem d_Ex_sign5_21 : decode m_Ex_sign5.2.1 21 = .ok (.ifCond .eq 10, 3) ∧ 21 + 3 = 24 ∧ (((21 : Nat) : Int) + (10) = ((31 : Nat) : Int)) := ⟨by decide +kernel, rfl, by decide⟩
theorem d_Ex_sign5_24 : decode m_Ex_sign5.2.1 24 = .ok (.iload 10, 2) ∧ 24 + 2 = 26 := ⟨by decide +kernel, rfl⟩
theorem d_Ex_sign5_26 : decode m_Ex_sign5.2.1 26 = .ok (.iload 11, 2) ∧ 26 + 2 = 28 := ⟨by decide +kernel, rfl⟩
theorem d_Ex_sign5_28 : decode m_Ex_sign5.2.1 28 = .ok (.if_icmp .ne 6, 3) ∧ 28 + 3 = 31 ∧ (((28 : Nat) : Int) + (6) = ((34 : Nat) : Int)) := ⟨by decide +kernel, rfl, by decide⟩
theorem d_Ex_sign5_31 : decode m_Ex_sign5.2.1 31 = .ok (.iload 11, 2) ∧ 31 + 2 = 33 := ⟨by decide +kernel, rfl⟩
theorem d_Ex_sign5_33 : decode m_Ex_sign5.2.1 33 = .ok (.ireturn, 1) := by decide +kernel
theorem d_Ex_sign5_34 : decode m_Ex_sign5.2.1 34 = .ok (.iload 11, 2) ∧ 34 + 2 = 36 := ⟨by decide +kernel, rfl⟩
theorem d_Ex_sign5_36 : decode m_Ex_sign5.2.1 36 = .ok (.ifCond .ne 8, 3) ∧ 36 + 3 = 39 ∧ (((36 : Nat) : Int) + (8) = ((44 : Nat) : Int)) := ⟨by decide +kernel, rfl, by decide⟩
theorem d_Ex_sign5_39 : decode m_Ex_sign5.2.1 39 = .ok (.iload 10, 2) ∧ 39 + 2 = 41 := ⟨by decide +kernel, rfl⟩
theorem d_Ex_sign5_41 : decode m_Ex_sign5.2.1 41 = .ok (.goto 37, 3) ∧ (((41 : Nat) : Int) + (37) = ((78 : Nat) : Int)) := ⟨by decide +kernel, by decide⟩
theorem d_Ex_sign5_44 : decode m_Ex_sign5.2.1 44 = .ok (.iload 10, 2) ∧ 44 + 2 = 46 := ⟨by decide +kernel, rfl⟩
theorem d_Ex_sign5_46 : decode m_Ex_sign5.2.1 46 = .ok (.lload_n 0, 1) ∧ 46 + 1 = 47 := ⟨by decide +kernel, rfl⟩
theorem d_Ex_sign5_47 : decode m_Ex_sign5.2.1 47 = .ok (.lload_n 0, 1) ∧ 47 + 1 = 48 := ⟨by decide +kernel, rfl⟩
theorem d_Ex_sign5_48 : decode m_Ex_sign5.2.1 48 = .ok (.lmul, 1) ∧ 48 + 1 = 49 := ⟨by decide +kernel, rfl⟩
theorem d_Ex_sign5_49 : decode m_Ex_sign5.2.1 49 = .ok (.lload_n 2, 1) ∧ 49 + 1 = 50 := ⟨by decide +kernel, rfl⟩
theorem d_Ex_sign5_50 : decode m_Ex_sign5.2.1 50 = .ok (.lload_n 2, 1) ∧ 50 + 1 = 51 := ⟨by decide +kernel, rfl⟩
theorem d_Ex_sign5_51 : decode m_Ex_sign5.2.1 51 = .ok (.lmul, 1) ∧ 51 + 1 = 52 := ⟨by decide +kernel, rfl⟩
theorem d_Ex_sign5_52 : decode m_Ex_sign5.2.1 52 = .ok (.lload 4, 2) ∧ 52 + 2 = 54 := ⟨by decide +kernel, rfl⟩
theorem d_Ex_sign5_54 : decode m_Ex_sign5.2.1 54 = .ok (.lmul, 1) ∧ 54 + 1 = 55 := ⟨by decide +kernel, rfl⟩
theorem d_Ex_sign5_55 : decode m_Ex_sign5.2.1 55 = .ok (.ladd, 1) ∧ 55 + 1 = 56 := ⟨by decide +kernel, rfl⟩
theorem d_Ex_sign5_56 : decode m_Ex_sign5.2.1 56 = .ok (.lload 6, 2) ∧ 56 + 2 = 58 := ⟨by decide +kernel, rfl⟩
theorem d_Ex_sign5_58 : decode m_Ex_sign5.2.1 58 = .ok (.lload 6, 2) ∧ 58 + 2 = 60 := ⟨by decide +kernel, rfl⟩
theorem d_Ex_sign5_60 : decode m_Ex_sign5.2.1 60 = .ok (.lmul, 1) ∧ 60 + 1 = 61 := ⟨by decide +kernel, rfl⟩
theorem d_Ex_sign5_61 : decode m_Ex_sign5.2.1 61 = .ok (.lload 8, 2) ∧ 61 + 2 = 63 := ⟨by decide +kernel, rfl⟩
theorem d_Ex_sign5_63 : decode m_Ex_sign5.2.1 63 = .ok (.lmul, 1) ∧ 63 + 1 = 64 := ⟨by decide +kernel, rfl⟩
theorem d_Ex_sign5_64 : decode m_Ex_sign5.2.1 64 = .ok (.lsub, 1) ∧ 64 + 1 = 65 := ⟨by decide +kernel, rfl⟩
theorem d_Ex_sign5_65 : decode m_Ex_sign5.2.1 65 = .ok (.ldc2_w 19, 3) ∧ 65 + 3 = 68 := ⟨by decide +kernel, rfl⟩
theorem d_Ex_sign5_68 : decode m_Ex_sign5.2.1 68 = .ok (.lload_n 0, 1) ∧ 68 + 1 = 69 := ⟨by decide +kernel, rfl⟩
theorem d_Ex_sign5_69 : decode m_Ex_sign5.2.1 69 = .ok (.lmul, 1) ∧ 69 + 1 = 70 := ⟨by decide +kernel, rfl⟩
theorem d_Ex_sign5_70 : decode m_Ex_sign5.2.1 70 = .ok (.lload_n 2, 1) ∧ 70 + 1 = 71 := ⟨by decide +kernel, rfl⟩
theorem d_Ex_sign5_71 : decode m_Ex_sign5.2.1 71 = .ok (.lmul, 1) ∧ 71 + 1 = 72 := ⟨by decide +kernel, rfl⟩
theorem d_Ex_sign5_72 : decode m_Ex_sign5.2.1 72 = .ok (.lload 4, 2) ∧ 72 + 2 = 74 := ⟨by decide +kernel, rfl⟩
theorem d_Ex_sign5_74 : decode m_Ex_sign5.2.1 74 = .ok (.invokestatic 13, 3) ∧ 74 + 3 = 77 := ⟨by decide +kernel, rfl⟩
theorem d_Ex_sign5_77 : decode m_Ex_sign5.2.1 77 = .ok (.imul, 1) ∧ 77 + 1 = 78 := ⟨by decide +kernel, rfl⟩
theorem d_Ex_sign5_78 : decode m_Ex_sign5.2.1 78 = .ok (.ireturn, 1) := by decide +kernel
theorem d_Ex_rootDown_0 : decode m_Ex_rootDown.2.1 0 = .ok (.lconst 0, 1) ∧ 0 + 1 = 1 := ⟨by decide +kernel, rfl⟩
theorem d_Ex_rootDown_1 : decode m_Ex_rootDown.2.1 1 = .ok (.lstore_n 2, 1) ∧ 1 + 1 = 2 := ⟨by decide +kernel, rfl⟩
theorem d_Ex_rootDown_2 : decode m_Ex_rootDown.2.1 2 = .ok (.ldc2_w 21, 3) ∧ 2 + 3 = 5 := ⟨by decide +kernel, rfl⟩
theorem d_Ex_rootDown_5 : decode m_Ex_rootDown.2.1 5 = .ok (.lstore 4, 2) ∧ 5 + 2 = 7 := ⟨by decide +kernel, rfl⟩
theorem d_Ex_rootDown_7 : decode m_Ex_rootDown.2.1 7 = .ok (.lload 4, 2) ∧ 7 + 2 = 9 := ⟨by decide +kernel, rfl⟩
theorem d_Ex_rootDown_9 : decode m_Ex_rootDown.2.1 9 = .ok (.lconst 0, 1) ∧ 9 + 1 = 10 := ⟨by decide +kernel, rfl⟩
theorem d_Ex_rootDown_10 : decode m_Ex_rootDown.2.1 10 = .ok (.lcmp, 1) ∧ 10 + 1 = 11 := ⟨by decide +kernel, rfl⟩
theorem d_Ex_rootDown_11 : decode m_Ex_rootDown.2.1 11 = .ok (.ifCond .le 31, 3) ∧ 11 + 3 = 14 ∧ (((11 : Nat) : Int) + (31) = ((42 : Nat) : Int)) := ⟨by decide +kernel, rfl, by decide⟩
theorem d_Ex_rootDown_14 : decode m_Ex_rootDown.2.1 14 = .ok (.lload_n 2, 1) ∧ 14 + 1 = 15 := ⟨by decide +kernel, rfl⟩
theorem d_Ex_rootDown_15 : decode m_Ex_rootDown.2.1 15 = .ok (.lload 4, 2) ∧ 15 + 2 = 17 := ⟨by decide +kernel, rfl⟩
theorem d_Ex_rootDown_17 : decode m_Ex_rootDown.2.1 17 = .ok (.ladd, 1) ∧ 17 + 1 = 18 := ⟨by decide +kernel, rfl⟩
theorem d_Ex_rootDown_18 : decode m_Ex_rootDown.2.1 18 = .ok (.lload_n 2, 1) ∧ 18 + 1 = 19 := ⟨by decide +kernel, rfl⟩
theorem d_Ex_rootDown_19 : decode m_Ex_rootDown.2.1 19 = .ok (.lload 4, 2) ∧ 19 + 2 = 21 := ⟨by decide +kernel, rfl⟩
theorem d_Ex_rootDown_21 : decode m_Ex_rootDown.2.1 21 = .ok (.ladd, 1) ∧ 21 + 1 = 22 := ⟨by decide +kernel, rfl⟩
theorem d_Ex_rootDown_22 : decode m_Ex_rootDown.2.1 22 = .ok (.lmul, 1) ∧ 22 + 1 = 23 := ⟨by decide +kernel, rfl⟩
theorem d_Ex_rootDown_23 : decode m_Ex_rootDown.2.1 23 = .ok (.lload_n 0, 1) ∧ 23 + 1 = 24 := ⟨by decide +kernel, rfl⟩
theorem d_Ex_rootDown_24 : decode m_Ex_rootDown.2.1 24 = .ok (.lcmp, 1) ∧ 24 + 1 = 25 := ⟨by decide +kernel, rfl⟩
theorem d_Ex_rootDown_25 : decode m_Ex_rootDown.2.1 25 = .ok (.ifCond .gt 8, 3) ∧ 25 + 3 = 28 ∧ (((25 : Nat) : Int) + (8) = ((33 : Nat) : Int)) := ⟨by decide +kernel, rfl, by decide⟩
theorem d_Ex_rootDown_28 : decode m_Ex_rootDown.2.1 28 = .ok (.lload_n 2, 1) ∧ 28 + 1 = 29 := ⟨by decide +kernel, rfl⟩
theorem d_Ex_rootDown_29 : decode m_Ex_rootDown.2.1 29 = .ok (.lload 4, 2) ∧ 29 + 2 = 31 := ⟨by decide +kernel, rfl⟩
theorem d_Ex_rootDown_31 : decode m_Ex_rootDown.2.1 31 = .ok (.ladd, 1) ∧ 31 + 1 = 32 := ⟨by decide +kernel, rfl⟩
theorem d_Ex_rootDown_32 : decode m_Ex_rootDown.2.1 32 = .ok (.lstore_n 2, 1) ∧ 32 + 1 = 33 := ⟨by decide +kernel, rfl⟩
theorem d_Ex_rootDown_33 : decode m_Ex_rootDown.2.1 33 = .ok (.lload 4, 2) ∧ 33 + 2 = 35 := ⟨by decide +kernel, rfl⟩
theorem d_Ex_rootDown_35 : decode m_Ex_rootDown.2.1 35 = .ok (.iconst 1, 1) ∧ 35 + 1 = 36 := ⟨by decide +kernel, rfl⟩
theorem d_Ex_rootDown_36 : decode m_Ex_rootDown.2.1 36 = .ok (.lshr, 1) ∧ 36 + 1 = 37 := ⟨by decide +kernel, rfl⟩
theorem d_Ex_rootDown_37 : decode m_Ex_rootDown.2.1 37 = .ok (.lstore 4, 2) ∧ 37 + 2 = 39 := ⟨by decide +kernel, rfl⟩
theorem d_Ex_rootDown_39 : decode m_Ex_rootDown.2.1 39 = .ok (.goto (-32), 3) ∧ (((39 : Nat) : Int) + (-32) = ((7 : Nat) : Int)) := ⟨by decide +kernel, by decide⟩
theorem d_Ex_rootDown_42 : decode m_Ex_rootDown.2.1 42 = .ok (.lload_n 2, 1) ∧ 42 + 1 = 43 := ⟨by decide +kernel, rfl⟩
theorem d_Ex_rootDown_43 : decode m_Ex_rootDown.2.1 43 = .ok (.lreturn, 1) := by decide +kernel
theorem d_Fo_init_0 : decode m_Fo_init.2.1 0 = .ok (.aload_n 0, 1) ∧ 0 + 1 = 1 := ⟨by decide +kernel, rfl⟩
theorem d_Fo_init_1 : decode m_Fo_init.2.1 1 = .ok (.invokespecial 3, 3) ∧ 1 + 3 = 4 := ⟨by decide +kernel, rfl⟩
theorem d_Fo_init_4 : decode m_Fo_init.2.1 4 = .ok (.aload_n 0, 1) ∧ 4 + 1 = 5 := ⟨by decide +kernel, rfl⟩
theorem d_Fo_init_5 : decode m_Fo_init.2.1 5 = .ok (.iconst 4, 1) ∧ 5 + 1 = 6 := ⟨by decide +kernel, rfl⟩
theorem d_Fo_init_6 : decode m_Fo_init.2.1 6 = .ok (.newarray .int, 2) ∧ 6 + 2 = 8 := ⟨by decide +kernel, rfl⟩
theorem d_Fo_init_8 : decode m_Fo_init.2.1 8 = .ok (.putfield 9, 3) ∧ 8 + 3 = 11 := ⟨by decide +kernel, rfl⟩
theorem d_Fo_init_11 : decode m_Fo_init.2.1 11 = .ok (.aload_n 0, 1) ∧ 11 + 1 = 12 := ⟨by decide +kernel, rfl⟩
theorem d_Fo_init_12 : decode m_Fo_init.2.1 12 = .ok (.iconst 1, 1) ∧ 12 + 1 = 13 := ⟨by decide +kernel, rfl⟩
theorem d_Fo_init_13 : decode m_Fo_init.2.1 13 = .ok (.putfield 15, 3) ∧ 13 + 3 = 16 := ⟨by decide +kernel, rfl⟩
theorem d_Fo_init_16 : decode m_Fo_init.2.1 16 = .ok (.return_, 1) := by decide +kernel
theorem d_Fo_isForm_0 : decode m_Fo_isForm.2.1 0 = .ok (.iload_n 0, 1) ∧ 0 + 1 = 1 := ⟨by decide +kernel, rfl⟩
theorem d_Fo_isForm_1 : decode m_Fo_isForm.2.1 1 = .ok (.ifCond .lt 47, 3) ∧ 1 + 3 = 4 ∧ (((1 : Nat) : Int) + (47) = ((48 : Nat) : Int)) := ⟨by decide +kernel, rfl, by decide⟩
theorem d_Fo_isForm_4 : decode m_Fo_isForm.2.1 4 = .ok (.iload_n 0, 1) ∧ 4 + 1 = 5 := ⟨by decide +kernel, rfl⟩
theorem d_Fo_isForm_5 : decode m_Fo_isForm.2.1 5 = .ok (.sipush 6666, 3) ∧ 5 + 3 = 8 ∧ (Int16.ofInt 6666).toInt32 = Int32.ofInt 6666 := ⟨by decide +kernel, rfl, by decide +kernel⟩
theorem d_Fo_isForm_8 : decode m_Fo_isForm.2.1 8 = .ok (.if_icmp .gt 40, 3) ∧ 8 + 3 = 11 ∧ (((8 : Nat) : Int) + (40) = ((48 : Nat) : Int)) := ⟨by decide +kernel, rfl, by decide⟩
theorem d_Fo_isForm_11 : decode m_Fo_isForm.2.1 11 = .ok (.iload_n 0, 1) ∧ 11 + 1 = 12 := ⟨by decide +kernel, rfl⟩
theorem d_Fo_isForm_12 : decode m_Fo_isForm.2.1 12 = .ok (.bipush 100, 2) ∧ 12 + 2 = 14 ∧ (Int8.ofInt 100).toInt32 = Int32.ofInt 100 := ⟨by decide +kernel, rfl, by decide +kernel⟩
theorem d_Fo_isForm_14 : decode m_Fo_isForm.2.1 14 = .ok (.idiv, 1) ∧ 14 + 1 = 15 := ⟨by decide +kernel, rfl⟩
theorem d_Fo_isForm_15 : decode m_Fo_isForm.2.1 15 = .ok (.bipush 10, 2) ∧ 15 + 2 = 17 ∧ (Int8.ofInt 10).toInt32 = Int32.ofInt 10 := ⟨by decide +kernel, rfl, by decide +kernel⟩
theorem d_Fo_isForm_17 : decode m_Fo_isForm.2.1 17 = .ok (.irem, 1) ∧ 17 + 1 = 18 := ⟨by decide +kernel, rfl⟩
theorem d_Fo_isForm_18 : decode m_Fo_isForm.2.1 18 = .ok (.bipush 6, 2) ∧ 18 + 2 = 20 ∧ (Int8.ofInt 6).toInt32 = Int32.ofInt 6 := ⟨by decide +kernel, rfl, by decide +kernel⟩
theorem d_Fo_isForm_20 : decode m_Fo_isForm.2.1 20 = .ok (.if_icmp .gt 28, 3) ∧ 20 + 3 = 23 ∧ (((20 : Nat) : Int) + (28) = ((48 : Nat) : Int)) := ⟨by decide +kernel, rfl, by decide⟩
theorem d_Fo_isForm_23 : decode m_Fo_isForm.2.1 23 = .ok (.iload_n 0, 1) ∧ 23 + 1 = 24 := ⟨by decide +kernel, rfl⟩
theorem d_Fo_isForm_24 : decode m_Fo_isForm.2.1 24 = .ok (.bipush 10, 2) ∧ 24 + 2 = 26 ∧ (Int8.ofInt 10).toInt32 = Int32.ofInt 10 := ⟨by decide +kernel, rfl, by decide +kernel⟩
theorem d_Fo_isForm_26 : decode m_Fo_isForm.2.1 26 = .ok (.idiv, 1) ∧ 26 + 1 = 27 := ⟨by decide +kernel, rfl⟩
theorem d_Fo_isForm_27 : decode m_Fo_isForm.2.1 27 = .ok (.bipush 10, 2) ∧ 27 + 2 = 29 ∧ (Int8.ofInt 10).toInt32 = Int32.ofInt 10 := ⟨by decide +kernel, rfl, by decide +kernel⟩
theorem d_Fo_isForm_29 : decode m_Fo_isForm.2.1 29 = .ok (.irem, 1) ∧ 29 + 1 = 30 := ⟨by decide +kernel, rfl⟩
theorem d_Fo_isForm_30 : decode m_Fo_isForm.2.1 30 = .ok (.bipush 6, 2) ∧ 30 + 2 = 32 ∧ (Int8.ofInt 6).toInt32 = Int32.ofInt 6 := ⟨by decide +kernel, rfl, by decide +kernel⟩
theorem d_Fo_isForm_32 : decode m_Fo_isForm.2.1 32 = .ok (.if_icmp .gt 16, 3) ∧ 32 + 3 = 35 ∧ (((32 : Nat) : Int) + (16) = ((48 : Nat) : Int)) := ⟨by decide +kernel, rfl, by decide⟩
theorem d_Fo_isForm_35 : decode m_Fo_isForm.2.1 35 = .ok (.iload_n 0, 1) ∧ 35 + 1 = 36 := ⟨by decide +kernel, rfl⟩
theorem d_Fo_isForm_36 : decode m_Fo_isForm.2.1 36 = .ok (.bipush 10, 2) ∧ 36 + 2 = 38 ∧ (Int8.ofInt 10).toInt32 = Int32.ofInt 10 := ⟨by decide +kernel, rfl, by decide +kernel⟩
theorem d_Fo_isForm_38 : decode m_Fo_isForm.2.1 38 = .ok (.irem, 1) ∧ 38 + 1 = 39 := ⟨by decide +kernel, rfl⟩
theorem d_Fo_isForm_39 : decode m_Fo_isForm.2.1 39 = .ok (.bipush 6, 2) ∧ 39 + 2 = 41 ∧ (Int8.ofInt 6).toInt32 = Int32.ofInt 6 := ⟨by decide +kernel, rfl, by decide +kernel⟩
theorem d_Fo_isForm_41 : decode m_Fo_isForm.2.1 41 = .ok (.if_icmp .gt 7, 3) ∧ 41 + 3 = 44 ∧ (((41 : Nat) : Int) + (7) = ((48 : Nat) : Int)) := ⟨by decide +kernel, rfl, by decide⟩
theorem d_Fo_isForm_44 : decode m_Fo_isForm.2.1 44 = .ok (.iconst 1, 1) ∧ 44 + 1 = 45 := ⟨by decide +kernel, rfl⟩
theorem d_Fo_isForm_45 : decode m_Fo_isForm.2.1 45 = .ok (.goto 4, 3) ∧ (((45 : Nat) : Int) + (4) = ((49 : Nat) : Int)) := ⟨by decide +kernel, by decide⟩
theorem d_Fo_isForm_48 : decode m_Fo_isForm.2.1 48 = .ok (.iconst 0, 1) ∧ 48 + 1 = 49 := ⟨by decide +kernel, rfl⟩
theorem d_Fo_isForm_49 : decode m_Fo_isForm.2.1 49 = .ok (.ireturn, 1) := by decide +kernel
theorem d_Fo_read_0 : decode m_Fo_read.2.1 0 = .ok (.aload_n 0, 1) ∧ 0 + 1 = 1 := ⟨by decide +kernel, rfl⟩
theorem d_Fo_read_1 : decode m_Fo_read.2.1 1 = .ok (.iload_n 1, 1) ∧ 1 + 1 = 2 := ⟨by decide +kernel, rfl⟩
theorem d_Fo_read_2 : decode m_Fo_read.2.1 2 = .ok (.ifCond .ne 7, 3) ∧ 2 + 3 = 5 ∧ (((2 : Nat) : Int) + (7) = ((9 : Nat) : Int)) := ⟨by decide +kernel, rfl, by decide⟩
theorem d_Fo_read_5 : decode m_Fo_read.2.1 5 = .ok (.iconst 1, 1) ∧ 5 + 1 = 6 := ⟨by decide +kernel, rfl⟩
theorem d_Fo_read_6 : decode m_Fo_read.2.1 6 = .ok (.goto 4, 3) ∧ (((6 : Nat) : Int) + (4) = ((10 : Nat) : Int)) := ⟨by decide +kernel, by decide⟩
theorem d_Fo_read_9 : decode m_Fo_read.2.1 9 = .ok (.iconst 0, 1) ∧ 9 + 1 = 10 := ⟨by decide +kernel, rfl⟩
theorem d_Fo_read_10 : decode m_Fo_read.2.1 10 = .ok (.putfield 15, 3) ∧ 10 + 3 = 13 := ⟨by decide +kernel, rfl⟩
theorem d_Fo_read_13 : decode m_Fo_read.2.1 13 = .ok (.iload_n 2, 1) ∧ 13 + 1 = 14 := ⟨by decide +kernel, rfl⟩
theorem d_Fo_read_14 : decode m_Fo_read.2.1 14 = .ok (.istore_n 3, 1) ∧ 14 + 1 = 15 := ⟨by decide +kernel, rfl⟩
theorem d_Fo_read_15 : decode m_Fo_read.2.1 15 = .ok (.iconst 3, 1) ∧ 15 + 1 = 16 := ⟨by decide +kernel, rfl⟩
theorem d_Fo_read_16 : decode m_Fo_read.2.1 16 = .ok (.istore 4, 2) ∧ 16 + 2 = 18 := ⟨by decide +kernel, rfl⟩
theorem d_Fo_read_18 : decode m_Fo_read.2.1 18 = .ok (.iload 4, 2) ∧ 18 + 2 = 20 := ⟨by decide +kernel, rfl⟩
theorem d_Fo_read_20 : decode m_Fo_read.2.1 20 = .ok (.ifCond .lt 25, 3) ∧ 20 + 3 = 23 ∧ (((20 : Nat) : Int) + (25) = ((45 : Nat) : Int)) := ⟨by decide +kernel, rfl, by decide⟩
theorem d_Fo_read_23 : decode m_Fo_read.2.1 23 = .ok (.aload_n 0, 1) ∧ 23 + 1 = 24 := ⟨by decide +kernel, rfl⟩
theorem d_Fo_read_24 : decode m_Fo_read.2.1 24 = .ok (.getfield 9, 3) ∧ 24 + 3 = 27 := ⟨by decide +kernel, rfl⟩
theorem d_Fo_read_27 : decode m_Fo_read.2.1 27 = .ok (.iload 4, 2) ∧ 27 + 2 = 29 := ⟨by decide +kernel, rfl⟩
theorem d_Fo_read_29 : decode m_Fo_read.2.1 29 = .ok (.iload_n 3, 1) ∧ 29 + 1 = 30 := ⟨by decide +kernel, rfl⟩
theorem d_Fo_read_30 : decode m_Fo_read.2.1 30 = .ok (.bipush 10, 2) ∧ 30 + 2 = 32 ∧ (Int8.ofInt 10).toInt32 = Int32.ofInt 10 := ⟨by decide +kernel, rfl, by decide +kernel⟩
theorem d_Fo_read_32 : decode m_Fo_read.2.1 32 = .ok (.irem, 1) ∧ 32 + 1 = 33 := ⟨by decide +kernel, rfl⟩
theorem d_Fo_read_33 : decode m_Fo_read.2.1 33 = .ok (.iastore, 1) ∧ 33 + 1 = 34 := ⟨by decide +kernel, rfl⟩
theorem d_Fo_read_34 : decode m_Fo_read.2.1 34 = .ok (.iload_n 3, 1) ∧ 34 + 1 = 35 := ⟨by decide +kernel, rfl⟩
theorem d_Fo_read_35 : decode m_Fo_read.2.1 35 = .ok (.bipush 10, 2) ∧ 35 + 2 = 37 ∧ (Int8.ofInt 10).toInt32 = Int32.ofInt 10 := ⟨by decide +kernel, rfl, by decide +kernel⟩
theorem d_Fo_read_37 : decode m_Fo_read.2.1 37 = .ok (.idiv, 1) ∧ 37 + 1 = 38 := ⟨by decide +kernel, rfl⟩
theorem d_Fo_read_38 : decode m_Fo_read.2.1 38 = .ok (.istore_n 3, 1) ∧ 38 + 1 = 39 := ⟨by decide +kernel, rfl⟩
theorem d_Fo_read_39 : decode m_Fo_read.2.1 39 = .ok (.iinc 4 (-1), 3) ∧ 39 + 3 = 42 := ⟨by decide +kernel, rfl⟩
theorem d_Fo_read_42 : decode m_Fo_read.2.1 42 = .ok (.goto (-24), 3) ∧ (((42 : Nat) : Int) + (-24) = ((18 : Nat) : Int)) := ⟨by decide +kernel, by decide⟩
theorem d_Fo_read_45 : decode m_Fo_read.2.1 45 = .ok (.return_, 1) := by decide +kernel
theorem d_Fo_holdsIn_0 : decode m_Fo_holdsIn.2.1 0 = .ok (.iconst 0, 1) ∧ 0 + 1 = 1 := ⟨by decide +kernel, rfl⟩
theorem d_Fo_holdsIn_1 : decode m_Fo_holdsIn.2.1 1 = .ok (.istore 4, 2) ∧ 1 + 2 = 3 := ⟨by decide +kernel, rfl⟩
theorem d_Fo_holdsIn_3 : decode m_Fo_holdsIn.2.1 3 = .ok (.iload 4, 2) ∧ 3 + 2 = 5 := ⟨by decide +kernel, rfl⟩
theorem d_Fo_holdsIn_5 : decode m_Fo_holdsIn.2.1 5 = .ok (.aload_n 1, 1) ∧ 5 + 1 = 6 := ⟨by decide +kernel, rfl⟩
theorem d_Fo_holdsIn_6 : decode m_Fo_holdsIn.2.1 6 = .ok (.getfield 19, 3) ∧ 6 + 3 = 9 := ⟨by decide +kernel, rfl⟩
theorem d_Fo_holdsIn_9 : decode m_Fo_holdsIn.2.1 9 = .ok (.if_icmp .ge 57, 3) ∧ 9 + 3 = 12 ∧ (((9 : Nat) : Int) + (57) = ((66 : Nat) : Int)) := ⟨by decide +kernel, rfl, by decide⟩
theorem d_Fo_holdsIn_12 : decode m_Fo_holdsIn.2.1 12 = .ok (.aload_n 0, 1) ∧ 12 + 1 = 13 := ⟨by decide +kernel, rfl⟩
theorem d_Fo_holdsIn_13 : decode m_Fo_holdsIn.2.1 13 = .ok (.getfield 9, 3) ∧ 13 + 3 = 16 := ⟨by decide +kernel, rfl⟩
theorem d_Fo_holdsIn_16 : decode m_Fo_holdsIn.2.1 16 = .ok (.iload 4, 2) ∧ 16 + 2 = 18 := ⟨by decide +kernel, rfl⟩
theorem d_Fo_holdsIn_18 : decode m_Fo_holdsIn.2.1 18 = .ok (.iaload, 1) ∧ 18 + 1 = 19 := ⟨by decide +kernel, rfl⟩
theorem d_Fo_holdsIn_19 : decode m_Fo_holdsIn.2.1 19 = .ok (.ifCond .eq 41, 3) ∧ 19 + 3 = 22 ∧ (((19 : Nat) : Int) + (41) = ((60 : Nat) : Int)) := ⟨by decide +kernel, rfl, by decide⟩
theorem d_Fo_holdsIn_22 : decode m_Fo_holdsIn.2.1 22 = .ok (.aload_n 0, 1) ∧ 22 + 1 = 23 := ⟨by decide +kernel, rfl⟩
theorem d_Fo_holdsIn_23 : decode m_Fo_holdsIn.2.1 23 = .ok (.getfield 9, 3) ∧ 23 + 3 = 26 := ⟨by decide +kernel, rfl⟩
theorem d_Fo_holdsIn_26 : decode m_Fo_holdsIn.2.1 26 = .ok (.iload 4, 2) ∧ 26 + 2 = 28 := ⟨by decide +kernel, rfl⟩
theorem d_Fo_holdsIn_28 : decode m_Fo_holdsIn.2.1 28 = .ok (.iaload, 1) ∧ 28 + 1 = 29 := ⟨by decide +kernel, rfl⟩
theorem d_Fo_holdsIn_29 : decode m_Fo_holdsIn.2.1 29 = .ok (.aload_n 1, 1) ∧ 29 + 1 = 30 := ⟨by decide +kernel, rfl⟩
theorem d_Fo_holdsIn_30 : decode m_Fo_holdsIn.2.1 30 = .ok (.iload_n 2, 1) ∧ 30 + 1 = 31 := ⟨by decide +kernel, rfl⟩
theorem d_Fo_holdsIn_31 : decode m_Fo_holdsIn.2.1 31 = .ok (.iload_n 3, 1) ∧ 31 + 1 = 32 := ⟨by decide +kernel, rfl⟩
theorem d_Fo_holdsIn_32 : decode m_Fo_holdsIn.2.1 32 = .ok (.iload 4, 2) ∧ 32 + 2 = 34 := ⟨by decide +kernel, rfl⟩
theorem d_Fo_holdsIn_34 : decode m_Fo_holdsIn.2.1 34 = .ok (.invokevirtual 25, 3) ∧ 34 + 3 = 37 := ⟨by decide +kernel, rfl⟩
theorem d_Fo_holdsIn_37 : decode m_Fo_holdsIn.2.1 37 = .ok (.invokestatic 29, 3) ∧ 37 + 3 = 40 := ⟨by decide +kernel, rfl⟩
theorem d_Fo_holdsIn_40 : decode m_Fo_holdsIn.2.1 40 = .ok (.aload_n 0, 1) ∧ 40 + 1 = 41 := ⟨by decide +kernel, rfl⟩
theorem d_Fo_holdsIn_41 : decode m_Fo_holdsIn.2.1 41 = .ok (.getfield 15, 3) ∧ 41 + 3 = 44 := ⟨by decide +kernel, rfl⟩
theorem d_Fo_holdsIn_44 : decode m_Fo_holdsIn.2.1 44 = .ok (.if_icmp .eq 16, 3) ∧ 44 + 3 = 47 ∧ (((44 : Nat) : Int) + (16) = ((60 : Nat) : Int)) := ⟨by decide +kernel, rfl, by decide⟩
theorem d_Fo_holdsIn_47 : decode m_Fo_holdsIn.2.1 47 = .ok (.aload_n 0, 1) ∧ 47 + 1 = 48 := ⟨by decide +kernel, rfl⟩
theorem d_Fo_holdsIn_48 : decode m_Fo_holdsIn.2.1 48 = .ok (.getfield 15, 3) ∧ 48 + 3 = 51 := ⟨by decide +kernel, rfl⟩
theorem d_Fo_holdsIn_51 : decode m_Fo_holdsIn.2.1 51 = .ok (.ifCond .ne 7, 3) ∧ 51 + 3 = 54 ∧ (((51 : Nat) : Int) + (7) = ((58 : Nat) : Int)) := ⟨by decide +kernel, rfl, by decide⟩
theorem d_Fo_holdsIn_54 : decode m_Fo_holdsIn.2.1 54 = .ok (.iconst 1, 1) ∧ 54 + 1 = 55 := ⟨by decide +kernel, rfl⟩
theorem d_Fo_holdsIn_55 : decode m_Fo_holdsIn.2.1 55 = .ok (.goto 4, 3) ∧ (((55 : Nat) : Int) + (4) = ((59 : Nat) : Int)) := ⟨by decide +kernel, by decide⟩
theorem d_Fo_holdsIn_58 : decode m_Fo_holdsIn.2.1 58 = .ok (.iconst 0, 1) ∧ 58 + 1 = 59 := ⟨by decide +kernel, rfl⟩
theorem d_Fo_holdsIn_59 : decode m_Fo_holdsIn.2.1 59 = .ok (.ireturn, 1) := by decide +kernel
theorem d_Fo_holdsIn_60 : decode m_Fo_holdsIn.2.1 60 = .ok (.iinc 4 1, 3) ∧ 60 + 3 = 63 := ⟨by decide +kernel, rfl⟩
theorem d_Fo_holdsIn_63 : decode m_Fo_holdsIn.2.1 63 = .ok (.goto (-60), 3) ∧ (((63 : Nat) : Int) + (-60) = ((3 : Nat) : Int)) := ⟨by decide +kernel, by decide⟩
theorem d_Fo_holdsIn_66 : decode m_Fo_holdsIn.2.1 66 = .ok (.aload_n 0, 1) ∧ 66 + 1 = 67 := ⟨by decide +kernel, rfl⟩
theorem d_Fo_holdsIn_67 : decode m_Fo_holdsIn.2.1 67 = .ok (.getfield 15, 3) ∧ 67 + 3 = 70 := ⟨by decide +kernel, rfl⟩
theorem d_Fo_holdsIn_70 : decode m_Fo_holdsIn.2.1 70 = .ok (.ireturn, 1) := by decide +kernel
theorem d_Fo_allows_0 : decode m_Fo_allows.2.1 0 = .ok (.iload_n 0, 1) ∧ 0 + 1 = 1 := ⟨by decide +kernel, rfl⟩
theorem d_Fo_allows_1 : decode m_Fo_allows.2.1 1 = .ok (.tableswitch 88 1 5 #[35, 45, 56, 67, 78], 35) := by decide +kernel
theorem d_Fo_allows_36 : decode m_Fo_allows.2.1 36 = .ok (.iload_n 1, 1) ∧ 36 + 1 = 37 := ⟨by decide +kernel, rfl⟩
theorem d_Fo_allows_37 : decode m_Fo_allows.2.1 37 = .ok (.ifCond .ne 7, 3) ∧ 37 + 3 = 40 ∧ (((37 : Nat) : Int) + (7) = ((44 : Nat) : Int)) := ⟨by decide +kernel, rfl, by decide⟩
theorem d_Fo_allows_40 : decode m_Fo_allows.2.1 40 = .ok (.iconst 1, 1) ∧ 40 + 1 = 41 := ⟨by decide +kernel, rfl⟩
theorem d_Fo_allows_41 : decode m_Fo_allows.2.1 41 = .ok (.goto 4, 3) ∧ (((41 : Nat) : Int) + (4) = ((45 : Nat) : Int)) := ⟨by decide +kernel, by decide⟩
theorem d_Fo_allows_44 : decode m_Fo_allows.2.1 44 = .ok (.iconst 0, 1) ∧ 44 + 1 = 45 := ⟨by decide +kernel, rfl⟩
theorem d_Fo_allows_45 : decode m_Fo_allows.2.1 45 = .ok (.ireturn, 1) := by decide +kernel
theorem d_Fo_allows_46 : decode m_Fo_allows.2.1 46 = .ok (.iload_n 1, 1) ∧ 46 + 1 = 47 := ⟨by decide +kernel, rfl⟩
theorem d_Fo_allows_47 : decode m_Fo_allows.2.1 47 = .ok (.iconst 1, 1) ∧ 47 + 1 = 48 := ⟨by decide +kernel, rfl⟩
theorem d_Fo_allows_48 : decode m_Fo_allows.2.1 48 = .ok (.if_icmp .ne 7, 3) ∧ 48 + 3 = 51 ∧ (((48 : Nat) : Int) + (7) = ((55 : Nat) : Int)) := ⟨by decide +kernel, rfl, by decide⟩
theorem d_Fo_allows_51 : decode m_Fo_allows.2.1 51 = .ok (.iconst 1, 1) ∧ 51 + 1 = 52 := ⟨by decide +kernel, rfl⟩
theorem d_Fo_allows_52 : decode m_Fo_allows.2.1 52 = .ok (.goto 4, 3) ∧ (((52 : Nat) : Int) + (4) = ((56 : Nat) : Int)) := ⟨by decide +kernel, by decide⟩
theorem d_Fo_allows_55 : decode m_Fo_allows.2.1 55 = .ok (.iconst 0, 1) ∧ 55 + 1 = 56 := ⟨by decide +kernel, rfl⟩
theorem d_Fo_allows_56 : decode m_Fo_allows.2.1 56 = .ok (.ireturn, 1) := by decide +kernel
theorem d_Fo_allows_57 : decode m_Fo_allows.2.1 57 = .ok (.iload_n 1, 1) ∧ 57 + 1 = 58 := ⟨by decide +kernel, rfl⟩
theorem d_Fo_allows_58 : decode m_Fo_allows.2.1 58 = .ok (.iconst 2, 1) ∧ 58 + 1 = 59 := ⟨by decide +kernel, rfl⟩
theorem d_Fo_allows_59 : decode m_Fo_allows.2.1 59 = .ok (.if_icmp .ne 7, 3) ∧ 59 + 3 = 62 ∧ (((59 : Nat) : Int) + (7) = ((66 : Nat) : Int)) := ⟨by decide +kernel, rfl, by decide⟩
theorem d_Fo_allows_62 : decode m_Fo_allows.2.1 62 = .ok (.iconst 1, 1) ∧ 62 + 1 = 63 := ⟨by decide +kernel, rfl⟩
theorem d_Fo_allows_63 : decode m_Fo_allows.2.1 63 = .ok (.goto 4, 3) ∧ (((63 : Nat) : Int) + (4) = ((67 : Nat) : Int)) := ⟨by decide +kernel, by decide⟩
theorem d_Fo_allows_66 : decode m_Fo_allows.2.1 66 = .ok (.iconst 0, 1) ∧ 66 + 1 = 67 := ⟨by decide +kernel, rfl⟩
theorem d_Fo_allows_67 : decode m_Fo_allows.2.1 67 = .ok (.ireturn, 1) := by decide +kernel
theorem d_Fo_allows_68 : decode m_Fo_allows.2.1 68 = .ok (.iload_n 1, 1) ∧ 68 + 1 = 69 := ⟨by decide +kernel, rfl⟩
theorem d_Fo_allows_69 : decode m_Fo_allows.2.1 69 = .ok (.iconst 1, 1) ∧ 69 + 1 = 70 := ⟨by decide +kernel, rfl⟩
theorem d_Fo_allows_70 : decode m_Fo_allows.2.1 70 = .ok (.if_icmp .eq 7, 3) ∧ 70 + 3 = 73 ∧ (((70 : Nat) : Int) + (7) = ((77 : Nat) : Int)) := ⟨by decide +kernel, rfl, by decide⟩
theorem d_Fo_allows_73 : decode m_Fo_allows.2.1 73 = .ok (.iconst 1, 1) ∧ 73 + 1 = 74 := ⟨by decide +kernel, rfl⟩
theorem d_Fo_allows_74 : decode m_Fo_allows.2.1 74 = .ok (.goto 4, 3) ∧ (((74 : Nat) : Int) + (4) = ((78 : Nat) : Int)) := ⟨by decide +kernel, by decide⟩
theorem d_Fo_allows_77 : decode m_Fo_allows.2.1 77 = .ok (.iconst 0, 1) ∧ 77 + 1 = 78 := ⟨by decide +kernel, rfl⟩
theorem d_Fo_allows_78 : decode m_Fo_allows.2.1 78 = .ok (.ireturn, 1) := by decide +kernel
theorem d_Fo_allows_79 : decode m_Fo_allows.2.1 79 = .ok (.iload_n 1, 1) ∧ 79 + 1 = 80 := ⟨by decide +kernel, rfl⟩
theorem d_Fo_allows_80 : decode m_Fo_allows.2.1 80 = .ok (.ifCond .eq 7, 3) ∧ 80 + 3 = 83 ∧ (((80 : Nat) : Int) + (7) = ((87 : Nat) : Int)) := ⟨by decide +kernel, rfl, by decide⟩
theorem d_Fo_allows_83 : decode m_Fo_allows.2.1 83 = .ok (.iconst 1, 1) ∧ 83 + 1 = 84 := ⟨by decide +kernel, rfl⟩
theorem d_Fo_allows_84 : decode m_Fo_allows.2.1 84 = .ok (.goto 4, 3) ∧ (((84 : Nat) : Int) + (4) = ((88 : Nat) : Int)) := ⟨by decide +kernel, by decide⟩
theorem d_Fo_allows_87 : decode m_Fo_allows.2.1 87 = .ok (.iconst 0, 1) ∧ 87 + 1 = 88 := ⟨by decide +kernel, rfl⟩
theorem d_Fo_allows_88 : decode m_Fo_allows.2.1 88 = .ok (.ireturn, 1) := by decide +kernel
theorem d_Fo_allows_89 : decode m_Fo_allows.2.1 89 = .ok (.iload_n 1, 1) ∧ 89 + 1 = 90 := ⟨by decide +kernel, rfl⟩
theorem d_Fo_allows_90 : decode m_Fo_allows.2.1 90 = .ok (.iconst 2, 1) ∧ 90 + 1 = 91 := ⟨by decide +kernel, rfl⟩
theorem d_Fo_allows_91 : decode m_Fo_allows.2.1 91 = .ok (.if_icmp .eq 7, 3) ∧ 91 + 3 = 94 ∧ (((91 : Nat) : Int) + (7) = ((98 : Nat) : Int)) := ⟨by decide +kernel, rfl, by decide⟩
theorem d_Fo_allows_94 : decode m_Fo_allows.2.1 94 = .ok (.iconst 1, 1) ∧ 94 + 1 = 95 := ⟨by decide +kernel, rfl⟩
theorem d_Fo_allows_95 : decode m_Fo_allows.2.1 95 = .ok (.goto 4, 3) ∧ (((95 : Nat) : Int) + (4) = ((99 : Nat) : Int)) := ⟨by decide +kernel, by decide⟩
theorem d_Fo_allows_98 : decode m_Fo_allows.2.1 98 = .ok (.iconst 0, 1) ∧ 98 + 1 = 99 := ⟨by decide +kernel, rfl⟩
theorem d_Fo_allows_99 : decode m_Fo_allows.2.1 99 = .ok (.ireturn, 1) := by decide +kernel
theorem d_Gr_init_0 : decode m_Gr_init.2.1 0 = .ok (.aload_n 0, 1) ∧ 0 + 1 = 1 := ⟨by decide +kernel, rfl⟩
theorem d_Gr_init_1 : decode m_Gr_init.2.1 1 = .ok (.invokespecial 3, 3) ∧ 1 + 3 = 4 := ⟨by decide +kernel, rfl⟩
theorem d_Gr_init_4 : decode m_Gr_init.2.1 4 = .ok (.aload_n 0, 1) ∧ 4 + 1 = 5 := ⟨by decide +kernel, rfl⟩
theorem d_Gr_init_5 : decode m_Gr_init.2.1 5 = .ok (.sipush 225, 3) ∧ 5 + 3 = 8 ∧ (Int16.ofInt 225).toInt32 = Int32.ofInt 225 := ⟨by decide +kernel, rfl, by decide +kernel⟩
theorem d_Gr_init_8 : decode m_Gr_init.2.1 8 = .ok (.newarray .int, 2) ∧ 8 + 2 = 10 := ⟨by decide +kernel, rfl⟩
theorem d_Gr_init_10 : decode m_Gr_init.2.1 10 = .ok (.putfield 9, 3) ∧ 10 + 3 = 13 := ⟨by decide +kernel, rfl⟩
theorem d_Gr_init_13 : decode m_Gr_init.2.1 13 = .ok (.aload_n 0, 1) ∧ 13 + 1 = 14 := ⟨by decide +kernel, rfl⟩
theorem d_Gr_init_14 : decode m_Gr_init.2.1 14 = .ok (.iconst 0, 1) ∧ 14 + 1 = 15 := ⟨by decide +kernel, rfl⟩
theorem d_Gr_init_15 : decode m_Gr_init.2.1 15 = .ok (.putfield 15, 3) ∧ 15 + 3 = 18 := ⟨by decide +kernel, rfl⟩
theorem d_Gr_init_18 : decode m_Gr_init.2.1 18 = .ok (.return_, 1) := by decide +kernel
theorem d_Gr_number_0 : decode m_Gr_number.2.1 0 = .ok (.aload_n 0, 1) ∧ 0 + 1 = 1 := ⟨by decide +kernel, rfl⟩
theorem d_Gr_number_1 : decode m_Gr_number.2.1 1 = .ok (.iconst 0, 1) ∧ 1 + 1 = 2 := ⟨by decide +kernel, rfl⟩
theorem d_Gr_number_2 : decode m_Gr_number.2.1 2 = .ok (.putfield 15, 3) ∧ 2 + 3 = 5 := ⟨by decide +kernel, rfl⟩
theorem d_Gr_number_5 : decode m_Gr_number.2.1 5 = .ok (.iconst 0, 1) ∧ 5 + 1 = 6 := ⟨by decide +kernel, rfl⟩
theorem d_Gr_number_6 : decode m_Gr_number.2.1 6 = .ok (.istore_n 3, 1) ∧ 6 + 1 = 7 := ⟨by decide +kernel, rfl⟩
theorem d_Gr_number_7 : decode m_Gr_number.2.1 7 = .ok (.iload_n 3, 1) ∧ 7 + 1 = 8 := ⟨by decide +kernel, rfl⟩
theorem d_Gr_number_8 : decode m_Gr_number.2.1 8 = .ok (.aload_n 1, 1) ∧ 8 + 1 = 9 := ⟨by decide +kernel, rfl⟩
theorem d_Gr_number_9 : decode m_Gr_number.2.1 9 = .ok (.getfield 19, 3) ∧ 9 + 3 = 12 := ⟨by decide +kernel, rfl⟩
theorem d_Gr_number_12 : decode m_Gr_number.2.1 12 = .ok (.if_icmp .ge 47, 3) ∧ 12 + 3 = 15 ∧ (((12 : Nat) : Int) + (47) = ((59 : Nat) : Int)) := ⟨by decide +kernel, rfl, by decide⟩
theorem d_Gr_number_15 : decode m_Gr_number.2.1 15 = .ok (.iconst 0, 1) ∧ 15 + 1 = 16 := ⟨by decide +kernel, rfl⟩
theorem d_Gr_number_16 : decode m_Gr_number.2.1 16 = .ok (.istore 4, 2) ∧ 16 + 2 = 18 := ⟨by decide +kernel, rfl⟩
theorem d_Gr_number_18 : decode m_Gr_number.2.1 18 = .ok (.iload 4, 2) ∧ 18 + 2 = 20 := ⟨by decide +kernel, rfl⟩
theorem d_Gr_number_20 : decode m_Gr_number.2.1 20 = .ok (.aload_n 1, 1) ∧ 20 + 1 = 21 := ⟨by decide +kernel, rfl⟩
theorem d_Gr_number_21 : decode m_Gr_number.2.1 21 = .ok (.getfield 24, 3) ∧ 21 + 3 = 24 := ⟨by decide +kernel, rfl⟩
theorem d_Gr_number_24 : decode m_Gr_number.2.1 24 = .ok (.iload_n 3, 1) ∧ 24 + 1 = 25 := ⟨by decide +kernel, rfl⟩
theorem d_Gr_number_25 : decode m_Gr_number.2.1 25 = .ok (.iaload, 1) ∧ 25 + 1 = 26 := ⟨by decide +kernel, rfl⟩
theorem d_Gr_number_26 : decode m_Gr_number.2.1 26 = .ok (.if_icmp .gt 27, 3) ∧ 26 + 3 = 29 ∧ (((26 : Nat) : Int) + (27) = ((53 : Nat) : Int)) := ⟨by decide +kernel, rfl, by decide⟩
theorem d_Gr_number_29 : decode m_Gr_number.2.1 29 = .ok (.aload_n 0, 1) ∧ 29 + 1 = 30 := ⟨by decide +kernel, rfl⟩
theorem d_Gr_number_30 : decode m_Gr_number.2.1 30 = .ok (.iload_n 3, 1) ∧ 30 + 1 = 31 := ⟨by decide +kernel, rfl⟩
theorem d_Gr_number_31 : decode m_Gr_number.2.1 31 = .ok (.iload 4, 2) ∧ 31 + 2 = 33 := ⟨by decide +kernel, rfl⟩
theorem d_Gr_number_33 : decode m_Gr_number.2.1 33 = .ok (.invokestatic 27, 3) ∧ 33 + 3 = 36 := ⟨by decide +kernel, rfl⟩
theorem d_Gr_number_36 : decode m_Gr_number.2.1 36 = .ok (.aload_n 2, 1) ∧ 36 + 1 = 37 := ⟨by decide +kernel, rfl⟩
theorem d_Gr_number_37 : decode m_Gr_number.2.1 37 = .ok (.aload_n 1, 1) ∧ 37 + 1 = 38 := ⟨by decide +kernel, rfl⟩
theorem d_Gr_number_38 : decode m_Gr_number.2.1 38 = .ok (.iload_n 3, 1) ∧ 38 + 1 = 39 := ⟨by decide +kernel, rfl⟩
theorem d_Gr_number_39 : decode m_Gr_number.2.1 39 = .ok (.iload 4, 2) ∧ 39 + 2 = 41 := ⟨by decide +kernel, rfl⟩
theorem d_Gr_number_41 : decode m_Gr_number.2.1 41 = .ok (.invokevirtual 31, 3) ∧ 41 + 3 = 44 := ⟨by decide +kernel, rfl⟩
theorem d_Gr_number_44 : decode m_Gr_number.2.1 44 = .ok (.invokevirtual 37, 3) ∧ 44 + 3 = 47 := ⟨by decide +kernel, rfl⟩
theorem d_Gr_number_47 : decode m_Gr_number.2.1 47 = .ok (.iinc 4 1, 3) ∧ 47 + 3 = 50 := ⟨by decide +kernel, rfl⟩
theorem d_Gr_number_50 : decode m_Gr_number.2.1 50 = .ok (.goto (-32), 3) ∧ (((50 : Nat) : Int) + (-32) = ((18 : Nat) : Int)) := ⟨by decide +kernel, by decide⟩
theorem d_Gr_number_53 : decode m_Gr_number.2.1 53 = .ok (.iinc 3 1, 3) ∧ 53 + 3 = 56 := ⟨by decide +kernel, rfl⟩
theorem d_Gr_number_56 : decode m_Gr_number.2.1 56 = .ok (.goto (-49), 3) ∧ (((56 : Nat) : Int) + (-49) = ((7 : Nat) : Int)) := ⟨by decide +kernel, by decide⟩
theorem d_Gr_number_59 : decode m_Gr_number.2.1 59 = .ok (.iconst 0, 1) ∧ 59 + 1 = 60 := ⟨by decide +kernel, rfl⟩
theorem d_Gr_number_60 : decode m_Gr_number.2.1 60 = .ok (.istore_n 3, 1) ∧ 60 + 1 = 61 := ⟨by decide +kernel, rfl⟩
theorem d_Gr_number_61 : decode m_Gr_number.2.1 61 = .ok (.iload_n 3, 1) ∧ 61 + 1 = 62 := ⟨by decide +kernel, rfl⟩
theorem d_Gr_number_62 : decode m_Gr_number.2.1 62 = .ok (.aload_n 1, 1) ∧ 62 + 1 = 63 := ⟨by decide +kernel, rfl⟩
theorem d_Gr_number_63 : decode m_Gr_number.2.1 63 = .ok (.getfield 19, 3) ∧ 63 + 3 = 66 := ⟨by decide +kernel, rfl⟩
theorem d_Gr_number_66 : decode m_Gr_number.2.1 66 = .ok (.if_icmp .ge 52, 3) ∧ 66 + 3 = 69 ∧ (((66 : Nat) : Int) + (52) = ((118 : Nat) : Int)) := ⟨by decide +kernel, rfl, by decide⟩
theorem d_Gr_number_69 : decode m_Gr_number.2.1 69 = .ok (.iconst 0, 1) ∧ 69 + 1 = 70 := ⟨by decide +kernel, rfl⟩
theorem d_Gr_number_70 : decode m_Gr_number.2.1 70 = .ok (.istore 4, 2) ∧ 70 + 2 = 72 := ⟨by decide +kernel, rfl⟩
theorem d_Gr_number_72 : decode m_Gr_number.2.1 72 = .ok (.iload 4, 2) ∧ 72 + 2 = 74 := ⟨by decide +kernel, rfl⟩
theorem d_Gr_number_74 : decode m_Gr_number.2.1 74 = .ok (.aload_n 1, 1) ∧ 74 + 1 = 75 := ⟨by decide +kernel, rfl⟩
theorem d_Gr_number_75 : decode m_Gr_number.2.1 75 = .ok (.getfield 24, 3) ∧ 75 + 3 = 78 := ⟨by decide +kernel, rfl⟩
theorem d_Gr_number_78 : decode m_Gr_number.2.1 78 = .ok (.iload_n 3, 1) ∧ 78 + 1 = 79 := ⟨by decide +kernel, rfl⟩
theorem d_Gr_number_79 : decode m_Gr_number.2.1 79 = .ok (.iaload, 1) ∧ 79 + 1 = 80 := ⟨by decide +kernel, rfl⟩
theorem d_Gr_number_80 : decode m_Gr_number.2.1 80 = .ok (.if_icmp .gt 32, 3) ∧ 80 + 3 = 83 ∧ (((80 : Nat) : Int) + (32) = ((112 : Nat) : Int)) := ⟨by decide +kernel, rfl, by decide⟩
theorem d_Gr_number_83 : decode m_Gr_number.2.1 83 = .ok (.aload_n 0, 1) ∧ 83 + 1 = 84 := ⟨by decide +kernel, rfl⟩
theorem d_Gr_number_84 : decode m_Gr_number.2.1 84 = .ok (.getfield 9, 3) ∧ 84 + 3 = 87 := ⟨by decide +kernel, rfl⟩
theorem d_Gr_number_87 : decode m_Gr_number.2.1 87 = .ok (.iload_n 3, 1) ∧ 87 + 1 = 88 := ⟨by decide +kernel, rfl⟩
theorem d_Gr_number_88 : decode m_Gr_number.2.1 88 = .ok (.iload 4, 2) ∧ 88 + 2 = 90 := ⟨by decide +kernel, rfl⟩
theorem d_Gr_number_90 : decode m_Gr_number.2.1 90 = .ok (.invokestatic 27, 3) ∧ 90 + 3 = 93 := ⟨by decide +kernel, rfl⟩
theorem d_Gr_number_93 : decode m_Gr_number.2.1 93 = .ok (.iaload, 1) ∧ 93 + 1 = 94 := ⟨by decide +kernel, rfl⟩
theorem d_Gr_number_94 : decode m_Gr_number.2.1 94 = .ok (.iconst (-1), 1) ∧ 94 + 1 = 95 := ⟨by decide +kernel, rfl⟩
theorem d_Gr_number_95 : decode m_Gr_number.2.1 95 = .ok (.if_icmp .eq 11, 3) ∧ 95 + 3 = 98 ∧ (((95 : Nat) : Int) + (11) = ((106 : Nat) : Int)) := ⟨by decide +kernel, rfl, by decide⟩
theorem d_Gr_number_98 : decode m_Gr_number.2.1 98 = .ok (.aload_n 0, 1) ∧ 98 + 1 = 99 := ⟨by decide +kernel, rfl⟩
theorem d_Gr_number_99 : decode m_Gr_number.2.1 99 = .ok (.aload_n 1, 1) ∧ 99 + 1 = 100 := ⟨by decide +kernel, rfl⟩
theorem d_Gr_number_100 : decode m_Gr_number.2.1 100 = .ok (.iload_n 3, 1) ∧ 100 + 1 = 101 := ⟨by decide +kernel, rfl⟩
theorem d_Gr_number_101 : decode m_Gr_number.2.1 101 = .ok (.iload 4, 2) ∧ 101 + 2 = 103 := ⟨by decide +kernel, rfl⟩
theorem d_Gr_number_103 : decode m_Gr_number.2.1 103 = .ok (.invokevirtual 41, 3) ∧ 103 + 3 = 106 := ⟨by decide +kernel, rfl⟩
theorem d_Gr_number_106 : decode m_Gr_number.2.1 106 = .ok (.iinc 4 1, 3) ∧ 106 + 3 = 109 := ⟨by decide +kernel, rfl⟩
theorem d_Gr_number_109 : decode m_Gr_number.2.1 109 = .ok (.goto (-37), 3) ∧ (((109 : Nat) : Int) + (-37) = ((72 : Nat) : Int)) := ⟨by decide +kernel, by decide⟩
theorem d_Gr_number_112 : decode m_Gr_number.2.1 112 = .ok (.iinc 3 1, 3) ∧ 112 + 3 = 115 := ⟨by decide +kernel, rfl⟩
theorem d_Gr_number_115 : decode m_Gr_number.2.1 115 = .ok (.goto (-54), 3) ∧ (((115 : Nat) : Int) + (-54) = ((61 : Nat) : Int)) := ⟨by decide +kernel, by decide⟩
theorem d_Gr_number_118 : decode m_Gr_number.2.1 118 = .ok (.aload_n 0, 1) ∧ 118 + 1 = 119 := ⟨by decide +kernel, rfl⟩
theorem d_Gr_number_119 : decode m_Gr_number.2.1 119 = .ok (.getfield 15, 3) ∧ 119 + 3 = 122 := ⟨by decide +kernel, rfl⟩
theorem d_Gr_number_122 : decode m_Gr_number.2.1 122 = .ok (.ireturn, 1) := by decide +kernel
theorem d_Gr_placeOf_0 : decode m_Gr_placeOf.2.1 0 = .ok (.bipush 9, 2) ∧ 0 + 2 = 2 ∧ (Int8.ofInt 9).toInt32 = Int32.ofInt 9 := ⟨by decide +kernel, rfl, by decide +kernel⟩
theorem d_Gr_placeOf_2 : decode m_Gr_placeOf.2.1 2 = .ok (.iload_n 0, 1) ∧ 2 + 1 = 3 := ⟨by decide +kernel, rfl⟩
theorem d_Gr_placeOf_3 : decode m_Gr_placeOf.2.1 3 = .ok (.imul, 1) ∧ 3 + 1 = 4 := ⟨by decide +kernel, rfl⟩
theorem d_Gr_placeOf_4 : decode m_Gr_placeOf.2.1 4 = .ok (.iload_n 1, 1) ∧ 4 + 1 = 5 := ⟨by decide +kernel, rfl⟩
theorem d_Gr_placeOf_5 : decode m_Gr_placeOf.2.1 5 = .ok (.iadd, 1) ∧ 5 + 1 = 6 := ⟨by decide +kernel, rfl⟩
theorem d_Gr_placeOf_6 : decode m_Gr_placeOf.2.1 6 = .ok (.ireturn, 1) := by decide +kernel
theorem d_Gr_begin_0 : decode m_Gr_begin.2.1 0 = .ok (.aload_n 0, 1) ∧ 0 + 1 = 1 := ⟨by decide +kernel, rfl⟩
theorem d_Gr_begin_1 : decode m_Gr_begin.2.1 1 = .ok (.getfield 9, 3) ∧ 1 + 3 = 4 := ⟨by decide +kernel, rfl⟩
theorem d_Gr_begin_4 : decode m_Gr_begin.2.1 4 = .ok (.iload_n 1, 1) ∧ 4 + 1 = 5 := ⟨by decide +kernel, rfl⟩
theorem d_Gr_begin_5 : decode m_Gr_begin.2.1 5 = .ok (.iload_n 2, 1) ∧ 5 + 1 = 6 := ⟨by decide +kernel, rfl⟩
theorem d_Gr_begin_6 : decode m_Gr_begin.2.1 6 = .ok (.ifCond .eq 7, 3) ∧ 6 + 3 = 9 ∧ (((6 : Nat) : Int) + (7) = ((13 : Nat) : Int)) := ⟨by decide +kernel, rfl, by decide⟩
theorem d_Gr_begin_9 : decode m_Gr_begin.2.1 9 = .ok (.iload_n 1, 1) ∧ 9 + 1 = 10 := ⟨by decide +kernel, rfl⟩
theorem d_Gr_begin_10 : decode m_Gr_begin.2.1 10 = .ok (.goto 4, 3) ∧ (((10 : Nat) : Int) + (4) = ((14 : Nat) : Int)) := ⟨by decide +kernel, by decide⟩
theorem d_Gr_begin_13 : decode m_Gr_begin.2.1 13 = .ok (.iconst (-1), 1) ∧ 13 + 1 = 14 := ⟨by decide +kernel, rfl⟩
theorem d_Gr_begin_14 : decode m_Gr_begin.2.1 14 = .ok (.iastore, 1) ∧ 14 + 1 = 15 := ⟨by decide +kernel, rfl⟩
theorem d_Gr_begin_15 : decode m_Gr_begin.2.1 15 = .ok (.iload_n 2, 1) ∧ 15 + 1 = 16 := ⟨by decide +kernel, rfl⟩
theorem d_Gr_begin_16 : decode m_Gr_begin.2.1 16 = .ok (.ifCond .eq 13, 3) ∧ 16 + 3 = 19 ∧ (((16 : Nat) : Int) + (13) = ((29 : Nat) : Int)) := ⟨by decide +kernel, rfl, by decide⟩
theorem d_Gr_begin_19 : decode m_Gr_begin.2.1 19 = .ok (.aload_n 0, 1) ∧ 19 + 1 = 20 := ⟨by decide +kernel, rfl⟩
theorem d_Gr_begin_20 : decode m_Gr_begin.2.1 20 = .ok (.dup, 1) ∧ 20 + 1 = 21 := ⟨by decide +kernel, rfl⟩
theorem d_Gr_begin_21 : decode m_Gr_begin.2.1 21 = .ok (.getfield 15, 3) ∧ 21 + 3 = 24 := ⟨by decide +kernel, rfl⟩
theorem d_Gr_begin_24 : decode m_Gr_begin.2.1 24 = .ok (.iconst 1, 1) ∧ 24 + 1 = 25 := ⟨by decide +kernel, rfl⟩
theorem d_Gr_begin_25 : decode m_Gr_begin.2.1 25 = .ok (.iadd, 1) ∧ 25 + 1 = 26 := ⟨by decide +kernel, rfl⟩
theorem d_Gr_begin_26 : decode m_Gr_begin.2.1 26 = .ok (.putfield 15, 3) ∧ 26 + 3 = 29 := ⟨by decide +kernel, rfl⟩
theorem d_Gr_begin_29 : decode m_Gr_begin.2.1 29 = .ok (.return_, 1) := by decide +kernel
theorem d_Gr_joinNeighbours_0 : decode m_Gr_joinNeighbours.2.1 0 = .ok (.iload_n 2, 1) ∧ 0 + 1 = 1 := ⟨by decide +kernel, rfl⟩
theorem d_Gr_joinNeighbours_1 : decode m_Gr_joinNeighbours.2.1 1 = .ok (.iload_n 3, 1) ∧ 1 + 1 = 2 := ⟨by decide +kernel, rfl⟩
theorem d_Gr_joinNeighbours_2 : decode m_Gr_joinNeighbours.2.1 2 = .ok (.invokestatic 27, 3) ∧ 2 + 3 = 5 := ⟨by decide +kernel, rfl⟩
theorem d_Gr_joinNeighbours_5 : decode m_Gr_joinNeighbours.2.1 5 = .ok (.istore 4, 2) ∧ 5 + 2 = 7 := ⟨by decide +kernel, rfl⟩
theorem d_Gr_joinNeighbours_7 : decode m_Gr_joinNeighbours.2.1 7 = .ok (.iload_n 3, 1) ∧ 7 + 1 = 8 := ⟨by decide +kernel, rfl⟩
theorem d_Gr_joinNeighbours_8 : decode m_Gr_joinNeighbours.2.1 8 = .ok (.ifCond .le 13, 3) ∧ 8 + 3 = 11 ∧ (((8 : Nat) : Int) + (13) = ((21 : Nat) : Int)) := ⟨by decide +kernel, rfl, by decide⟩
theorem d_Gr_joinNeighbours_11 : decode m_Gr_joinNeighbours.2.1 11 = .ok (.aload_n 0, 1) ∧ 11 + 1 = 12 := ⟨by decide +kernel, rfl⟩
theorem d_Gr_joinNeighbours_12 : decode m_Gr_joinNeighbours.2.1 12 = .ok (.iload 4, 2) ∧ 12 + 2 = 14 := ⟨by decide +kernel, rfl⟩
theorem d_Gr_joinNeighbours_14 : decode m_Gr_joinNeighbours.2.1 14 = .ok (.iload 4, 2) ∧ 14 + 2 = 16 := ⟨by decide +kernel, rfl⟩
theorem d_Gr_joinNeighbours_16 : decode m_Gr_joinNeighbours.2.1 16 = .ok (.iconst 1, 1) ∧ 16 + 1 = 17 := ⟨by decide +kernel, rfl⟩
theorem d_Gr_joinNeighbours_17 : decode m_Gr_joinNeighbours.2.1 17 = .ok (.isub, 1) ∧ 17 + 1 = 18 := ⟨by decide +kernel, rfl⟩
theorem d_Gr_joinNeighbours_18 : decode m_Gr_joinNeighbours.2.1 18 = .ok (.invokevirtual 45, 3) ∧ 18 + 3 = 21 := ⟨by decide +kernel, rfl⟩
theorem d_Gr_joinNeighbours_21 : decode m_Gr_joinNeighbours.2.1 21 = .ok (.iload_n 2, 1) ∧ 21 + 1 = 22 := ⟨by decide +kernel, rfl⟩
theorem d_Gr_joinNeighbours_22 : decode m_Gr_joinNeighbours.2.1 22 = .ok (.iconst 2, 1) ∧ 22 + 1 = 23 := ⟨by decide +kernel, rfl⟩
theorem d_Gr_joinNeighbours_23 : decode m_Gr_joinNeighbours.2.1 23 = .ok (.irem, 1) ∧ 23 + 1 = 24 := ⟨by decide +kernel, rfl⟩
theorem d_Gr_joinNeighbours_24 : decode m_Gr_joinNeighbours.2.1 24 = .ok (.iconst 1, 1) ∧ 24 + 1 = 25 := ⟨by decide +kernel, rfl⟩
theorem d_Gr_joinNeighbours_25 : decode m_Gr_joinNeighbours.2.1 25 = .ok (.if_icmp .ne 4, 3) ∧ 25 + 3 = 28 ∧ (((25 : Nat) : Int) + (4) = ((29 : Nat) : Int)) := ⟨by decide +kernel, rfl, by decide⟩
theorem d_Gr_joinNeighbours_28 : decode m_Gr_joinNeighbours.2.1 28 = .ok (.return_, 1) := by decide +kernel
theorem d_Gr_joinNeighbours_29 : decode m_Gr_joinNeighbours.2.1 29 = .ok (.iload_n 2, 1) ∧ 29 + 1 = 30 := ⟨by decide +kernel, rfl⟩
theorem d_Gr_joinNeighbours_30 : decode m_Gr_joinNeighbours.2.1 30 = .ok (.iconst 1, 1) ∧ 30 + 1 = 31 := ⟨by decide +kernel, rfl⟩
theorem d_Gr_joinNeighbours_31 : decode m_Gr_joinNeighbours.2.1 31 = .ok (.isub, 1) ∧ 31 + 1 = 32 := ⟨by decide +kernel, rfl⟩
theorem d_Gr_joinNeighbours_32 : decode m_Gr_joinNeighbours.2.1 32 = .ok (.istore 5, 2) ∧ 32 + 2 = 34 := ⟨by decide +kernel, rfl⟩
theorem d_Gr_joinNeighbours_34 : decode m_Gr_joinNeighbours.2.1 34 = .ok (.iload 5, 2) ∧ 34 + 2 = 36 := ⟨by decide +kernel, rfl⟩
theorem d_Gr_joinNeighbours_36 : decode m_Gr_joinNeighbours.2.1 36 = .ok (.iload_n 2, 1) ∧ 36 + 1 = 37 := ⟨by decide +kernel, rfl⟩
theorem d_Gr_joinNeighbours_37 : decode m_Gr_joinNeighbours.2.1 37 = .ok (.iconst 1, 1) ∧ 37 + 1 = 38 := ⟨by decide +kernel, rfl⟩
theorem d_Gr_joinNeighbours_38 : decode m_Gr_joinNeighbours.2.1 38 = .ok (.iadd, 1) ∧ 38 + 1 = 39 := ⟨by decide +kernel, rfl⟩
theorem d_Gr_joinNeighbours_39 : decode m_Gr_joinNeighbours.2.1 39 = .ok (.if_icmp .gt 64, 3) ∧ 39 + 3 = 42 ∧ (((39 : Nat) : Int) + (64) = ((103 : Nat) : Int)) := ⟨by decide +kernel, rfl, by decide⟩
theorem d_Gr_joinNeighbours_42 : decode m_Gr_joinNeighbours.2.1 42 = .ok (.aload_n 1, 1) ∧ 42 + 1 = 43 := ⟨by decide +kernel, rfl⟩
theorem d_Gr_joinNeighbours_43 : decode m_Gr_joinNeighbours.2.1 43 = .ok (.iload 5, 2) ∧ 43 + 2 = 45 := ⟨by decide +kernel, rfl⟩
theorem d_Gr_joinNeighbours_45 : decode m_Gr_joinNeighbours.2.1 45 = .ok (.invokevirtual 49, 3) ∧ 45 + 3 = 48 := ⟨by decide +kernel, rfl⟩
theorem d_Gr_joinNeighbours_48 : decode m_Gr_joinNeighbours.2.1 48 = .ok (.ifCond .eq 49, 3) ∧ 48 + 3 = 51 ∧ (((48 : Nat) : Int) + (49) = ((97 : Nat) : Int)) := ⟨by decide +kernel, rfl, by decide⟩
theorem d_Gr_joinNeighbours_51 : decode m_Gr_joinNeighbours.2.1 51 = .ok (.aload_n 1, 1) ∧ 51 + 1 = 52 := ⟨by decide +kernel, rfl⟩
theorem d_Gr_joinNeighbours_52 : decode m_Gr_joinNeighbours.2.1 52 = .ok (.iload_n 2, 1) ∧ 52 + 1 = 53 := ⟨by decide +kernel, rfl⟩
theorem d_Gr_joinNeighbours_53 : decode m_Gr_joinNeighbours.2.1 53 = .ok (.iload_n 3, 1) ∧ 53 + 1 = 54 := ⟨by decide +kernel, rfl⟩
theorem d_Gr_joinNeighbours_54 : decode m_Gr_joinNeighbours.2.1 54 = .ok (.iload 5, 2) ∧ 54 + 2 = 56 := ⟨by decide +kernel, rfl⟩
theorem d_Gr_joinNeighbours_56 : decode m_Gr_joinNeighbours.2.1 56 = .ok (.invokevirtual 53, 3) ∧ 56 + 3 = 59 := ⟨by decide +kernel, rfl⟩
theorem d_Gr_joinNeighbours_59 : decode m_Gr_joinNeighbours.2.1 59 = .ok (.istore 6, 2) ∧ 59 + 2 = 61 := ⟨by decide +kernel, rfl⟩
theorem d_Gr_joinNeighbours_61 : decode m_Gr_joinNeighbours.2.1 61 = .ok (.aload_n 1, 1) ∧ 61 + 1 = 62 := ⟨by decide +kernel, rfl⟩
theorem d_Gr_joinNeighbours_62 : decode m_Gr_joinNeighbours.2.1 62 = .ok (.iload_n 2, 1) ∧ 62 + 1 = 63 := ⟨by decide +kernel, rfl⟩
theorem d_Gr_joinNeighbours_63 : decode m_Gr_joinNeighbours.2.1 63 = .ok (.iload_n 3, 1) ∧ 63 + 1 = 64 := ⟨by decide +kernel, rfl⟩
theorem d_Gr_joinNeighbours_64 : decode m_Gr_joinNeighbours.2.1 64 = .ok (.iload 5, 2) ∧ 64 + 2 = 66 := ⟨by decide +kernel, rfl⟩
theorem d_Gr_joinNeighbours_66 : decode m_Gr_joinNeighbours.2.1 66 = .ok (.invokevirtual 57, 3) ∧ 66 + 3 = 69 := ⟨by decide +kernel, rfl⟩
theorem d_Gr_joinNeighbours_69 : decode m_Gr_joinNeighbours.2.1 69 = .ok (.istore 7, 2) ∧ 69 + 2 = 71 := ⟨by decide +kernel, rfl⟩
theorem d_Gr_joinNeighbours_71 : decode m_Gr_joinNeighbours.2.1 71 = .ok (.iload 7, 2) ∧ 71 + 2 = 73 := ⟨by decide +kernel, rfl⟩
theorem d_Gr_joinNeighbours_73 : decode m_Gr_joinNeighbours.2.1 73 = .ok (.iload 6, 2) ∧ 73 + 2 = 75 := ⟨by decide +kernel, rfl⟩
theorem d_Gr_joinNeighbours_75 : decode m_Gr_joinNeighbours.2.1 75 = .ok (.if_icmp .gt 22, 3) ∧ 75 + 3 = 78 ∧ (((75 : Nat) : Int) + (22) = ((97 : Nat) : Int)) := ⟨by decide +kernel, rfl, by decide⟩
theorem d_Gr_joinNeighbours_78 : decode m_Gr_joinNeighbours.2.1 78 = .ok (.aload_n 0, 1) ∧ 78 + 1 = 79 := ⟨by decide +kernel, rfl⟩
theorem d_Gr_joinNeighbours_79 : decode m_Gr_joinNeighbours.2.1 79 = .ok (.iload 4, 2) ∧ 79 + 2 = 81 := ⟨by decide +kernel, rfl⟩
theorem d_Gr_joinNeighbours_81 : decode m_Gr_joinNeighbours.2.1 81 = .ok (.iload 5, 2) ∧ 81 + 2 = 83 := ⟨by decide +kernel, rfl⟩
theorem d_Gr_joinNeighbours_83 : decode m_Gr_joinNeighbours.2.1 83 = .ok (.iload 7, 2) ∧ 83 + 2 = 85 := ⟨by decide +kernel, rfl⟩
theorem d_Gr_joinNeighbours_85 : decode m_Gr_joinNeighbours.2.1 85 = .ok (.invokestatic 27, 3) ∧ 85 + 3 = 88 := ⟨by decide +kernel, rfl⟩
theorem d_Gr_joinNeighbours_88 : decode m_Gr_joinNeighbours.2.1 88 = .ok (.invokevirtual 45, 3) ∧ 88 + 3 = 91 := ⟨by decide +kernel, rfl⟩
theorem d_Gr_joinNeighbours_91 : decode m_Gr_joinNeighbours.2.1 91 = .ok (.iinc 7 1, 3) ∧ 91 + 3 = 94 := ⟨by decide +kernel, rfl⟩
theorem d_Gr_joinNeighbours_94 : decode m_Gr_joinNeighbours.2.1 94 = .ok (.goto (-23), 3) ∧ (((94 : Nat) : Int) + (-23) = ((71 : Nat) : Int)) := ⟨by decide +kernel, by decide⟩
theorem d_Gr_joinNeighbours_97 : decode m_Gr_joinNeighbours.2.1 97 = .ok (.iinc 5 2, 3) ∧ 97 + 3 = 100 := ⟨by decide +kernel, rfl⟩
theorem d_Gr_joinNeighbours_100 : decode m_Gr_joinNeighbours.2.1 100 = .ok (.goto (-66), 3) ∧ (((100 : Nat) : Int) + (-66) = ((34 : Nat) : Int)) := ⟨by decide +kernel, by decide⟩
theorem d_Gr_joinNeighbours_103 : decode m_Gr_joinNeighbours.2.1 103 = .ok (.return_, 1) := by decide +kernel
theorem d_Gr_join_0 : decode m_Gr_join.2.1 0 = .ok (.aload_n 0, 1) ∧ 0 + 1 = 1 := ⟨by decide +kernel, rfl⟩
theorem d_Gr_join_1 : decode m_Gr_join.2.1 1 = .ok (.getfield 9, 3) ∧ 1 + 3 = 4 := ⟨by decide +kernel, rfl⟩
theorem d_Gr_join_4 : decode m_Gr_join.2.1 4 = .ok (.iload_n 2, 1) ∧ 4 + 1 = 5 := ⟨by decide +kernel, rfl⟩
theorem d_Gr_join_5 : decode m_Gr_join.2.1 5 = .ok (.iaload, 1) ∧ 5 + 1 = 6 := ⟨by decide +kernel, rfl⟩
theorem d_Gr_join_6 : decode m_Gr_join.2.1 6 = .ok (.iconst (-1), 1) ∧ 6 + 1 = 7 := ⟨by decide +kernel, rfl⟩
theorem d_Gr_join_7 : decode m_Gr_join.2.1 7 = .ok (.if_icmp .ne 4, 3) ∧ 7 + 3 = 10 ∧ (((7 : Nat) : Int) + (4) = ((11 : Nat) : Int)) := ⟨by decide +kernel, rfl, by decide⟩
theorem d_Gr_join_10 : decode m_Gr_join.2.1 10 = .ok (.return_, 1) := by decide +kernel
theorem d_Gr_join_11 : decode m_Gr_join.2.1 11 = .ok (.aload_n 0, 1) ∧ 11 + 1 = 12 := ⟨by decide +kernel, rfl⟩
theorem d_Gr_join_12 : decode m_Gr_join.2.1 12 = .ok (.iload_n 1, 1) ∧ 12 + 1 = 13 := ⟨by decide +kernel, rfl⟩
theorem d_Gr_join_13 : decode m_Gr_join.2.1 13 = .ok (.invokevirtual 60, 3) ∧ 13 + 3 = 16 := ⟨by decide +kernel, rfl⟩
theorem d_Gr_join_16 : decode m_Gr_join.2.1 16 = .ok (.istore_n 3, 1) ∧ 16 + 1 = 17 := ⟨by decide +kernel, rfl⟩
theorem d_Gr_join_17 : decode m_Gr_join.2.1 17 = .ok (.aload_n 0, 1) ∧ 17 + 1 = 18 := ⟨by decide +kernel, rfl⟩
theorem d_Gr_join_18 : decode m_Gr_join.2.1 18 = .ok (.iload_n 2, 1) ∧ 18 + 1 = 19 := ⟨by decide +kernel, rfl⟩
theorem d_Gr_join_19 : decode m_Gr_join.2.1 19 = .ok (.invokevirtual 60, 3) ∧ 19 + 3 = 22 := ⟨by decide +kernel, rfl⟩
theorem d_Gr_join_22 : decode m_Gr_join.2.1 22 = .ok (.istore 4, 2) ∧ 22 + 2 = 24 := ⟨by decide +kernel, rfl⟩
theorem d_Gr_join_24 : decode m_Gr_join.2.1 24 = .ok (.iload_n 3, 1) ∧ 24 + 1 = 25 := ⟨by decide +kernel, rfl⟩
theorem d_Gr_join_25 : decode m_Gr_join.2.1 25 = .ok (.iload 4, 2) ∧ 25 + 2 = 27 := ⟨by decide +kernel, rfl⟩
theorem d_Gr_join_27 : decode m_Gr_join.2.1 27 = .ok (.if_icmp .eq 30, 3) ∧ 27 + 3 = 30 ∧ (((27 : Nat) : Int) + (30) = ((57 : Nat) : Int)) := ⟨by decide +kernel, rfl, by decide⟩
theorem d_Gr_join_30 : decode m_Gr_join.2.1 30 = .ok (.aload_n 0, 1) ∧ 30 + 1 = 31 := ⟨by decide +kernel, rfl⟩
theorem d_Gr_join_31 : decode m_Gr_join.2.1 31 = .ok (.getfield 9, 3) ∧ 31 + 3 = 34 := ⟨by decide +kernel, rfl⟩
theorem d_Gr_join_34 : decode m_Gr_join.2.1 34 = .ok (.iload_n 3, 1) ∧ 34 + 1 = 35 := ⟨by decide +kernel, rfl⟩
theorem d_Gr_join_35 : decode m_Gr_join.2.1 35 = .ok (.iload 4, 2) ∧ 35 + 2 = 37 := ⟨by decide +kernel, rfl⟩
theorem d_Gr_join_37 : decode m_Gr_join.2.1 37 = .ok (.invokestatic 64, 3) ∧ 37 + 3 = 40 := ⟨by decide +kernel, rfl⟩
theorem d_Gr_join_40 : decode m_Gr_join.2.1 40 = .ok (.iload_n 3, 1) ∧ 40 + 1 = 41 := ⟨by decide +kernel, rfl⟩
theorem d_Gr_join_41 : decode m_Gr_join.2.1 41 = .ok (.iload 4, 2) ∧ 41 + 2 = 43 := ⟨by decide +kernel, rfl⟩
theorem d_Gr_join_43 : decode m_Gr_join.2.1 43 = .ok (.invokestatic 69, 3) ∧ 43 + 3 = 46 := ⟨by decide +kernel, rfl⟩
theorem d_Gr_join_46 : decode m_Gr_join.2.1 46 = .ok (.iastore, 1) ∧ 46 + 1 = 47 := ⟨by decide +kernel, rfl⟩
theorem d_Gr_join_47 : decode m_Gr_join.2.1 47 = .ok (.aload_n 0, 1) ∧ 47 + 1 = 48 := ⟨by decide +kernel, rfl⟩
theorem d_Gr_join_48 : decode m_Gr_join.2.1 48 = .ok (.dup, 1) ∧ 48 + 1 = 49 := ⟨by decide +kernel, rfl⟩
theorem d_Gr_join_49 : decode m_Gr_join.2.1 49 = .ok (.getfield 15, 3) ∧ 49 + 3 = 52 := ⟨by decide +kernel, rfl⟩
theorem d_Gr_join_52 : decode m_Gr_join.2.1 52 = .ok (.iconst 1, 1) ∧ 52 + 1 = 53 := ⟨by decide +kernel, rfl⟩
theorem d_Gr_join_53 : decode m_Gr_join.2.1 53 = .ok (.isub, 1) ∧ 53 + 1 = 54 := ⟨by decide +kernel, rfl⟩
theorem d_Gr_join_54 : decode m_Gr_join.2.1 54 = .ok (.putfield 15, 3) ∧ 54 + 3 = 57 := ⟨by decide +kernel, rfl⟩
theorem d_Gr_join_57 : decode m_Gr_join.2.1 57 = .ok (.return_, 1) := by decide +kernel
theorem d_Gr_standsFor_0 : decode m_Gr_standsFor.2.1 0 = .ok (.iload_n 1, 1) ∧ 0 + 1 = 1 := ⟨by decide +kernel, rfl⟩
theorem d_Gr_standsFor_1 : decode m_Gr_standsFor.2.1 1 = .ok (.istore_n 2, 1) ∧ 1 + 1 = 2 := ⟨by decide +kernel, rfl⟩
theorem d_Gr_standsFor_2 : decode m_Gr_standsFor.2.1 2 = .ok (.iconst 0, 1) ∧ 2 + 1 = 3 := ⟨by decide +kernel, rfl⟩
theorem d_Gr_standsFor_3 : decode m_Gr_standsFor.2.1 3 = .ok (.istore_n 3, 1) ∧ 3 + 1 = 4 := ⟨by decide +kernel, rfl⟩
theorem d_Gr_standsFor_4 : decode m_Gr_standsFor.2.1 4 = .ok (.iload_n 3, 1) ∧ 4 + 1 = 5 := ⟨by decide +kernel, rfl⟩
theorem d_Gr_standsFor_5 : decode m_Gr_standsFor.2.1 5 = .ok (.sipush 225, 3) ∧ 5 + 3 = 8 ∧ (Int16.ofInt 225).toInt32 = Int32.ofInt 225 := ⟨by decide +kernel, rfl, by decide +kernel⟩
theorem d_Gr_standsFor_8 : decode m_Gr_standsFor.2.1 8 = .ok (.if_icmp .ge 26, 3) ∧ 8 + 3 = 11 ∧ (((8 : Nat) : Int) + (26) = ((34 : Nat) : Int)) := ⟨by decide +kernel, rfl, by decide⟩
theorem d_Gr_standsFor_11 : decode m_Gr_standsFor.2.1 11 = .ok (.aload_n 0, 1) ∧ 11 + 1 = 12 := ⟨by decide +kernel, rfl⟩
theorem d_Gr_standsFor_12 : decode m_Gr_standsFor.2.1 12 = .ok (.getfield 9, 3) ∧ 12 + 3 = 15 := ⟨by decide +kernel, rfl⟩
theorem d_Gr_standsFor_15 : decode m_Gr_standsFor.2.1 15 = .ok (.iload_n 2, 1) ∧ 15 + 1 = 16 := ⟨by decide +kernel, rfl⟩
theorem d_Gr_standsFor_16 : decode m_Gr_standsFor.2.1 16 = .ok (.iaload, 1) ∧ 16 + 1 = 17 := ⟨by decide +kernel, rfl⟩
theorem d_Gr_standsFor_17 : decode m_Gr_standsFor.2.1 17 = .ok (.iload_n 2, 1) ∧ 17 + 1 = 18 := ⟨by decide +kernel, rfl⟩
theorem d_Gr_standsFor_18 : decode m_Gr_standsFor.2.1 18 = .ok (.if_icmp .eq 16, 3) ∧ 18 + 3 = 21 ∧ (((18 : Nat) : Int) + (16) = ((34 : Nat) : Int)) := ⟨by decide +kernel, rfl, by decide⟩
theorem d_Gr_standsFor_21 : decode m_Gr_standsFor.2.1 21 = .ok (.aload_n 0, 1) ∧ 21 + 1 = 22 := ⟨by decide +kernel, rfl⟩
theorem d_Gr_standsFor_22 : decode m_Gr_standsFor.2.1 22 = .ok (.getfield 9, 3) ∧ 22 + 3 = 25 := ⟨by decide +kernel, rfl⟩
theorem d_Gr_standsFor_25 : decode m_Gr_standsFor.2.1 25 = .ok (.iload_n 2, 1) ∧ 25 + 1 = 26 := ⟨by decide +kernel, rfl⟩
theorem d_Gr_standsFor_26 : decode m_Gr_standsFor.2.1 26 = .ok (.iaload, 1) ∧ 26 + 1 = 27 := ⟨by decide +kernel, rfl⟩
theorem d_Gr_standsFor_27 : decode m_Gr_standsFor.2.1 27 = .ok (.istore_n 2, 1) ∧ 27 + 1 = 28 := ⟨by decide +kernel, rfl⟩
theorem d_Gr_standsFor_28 : decode m_Gr_standsFor.2.1 28 = .ok (.iinc 3 1, 3) ∧ 28 + 3 = 31 := ⟨by decide +kernel, rfl⟩
theorem d_Gr_standsFor_31 : decode m_Gr_standsFor.2.1 31 = .ok (.goto (-27), 3) ∧ (((31 : Nat) : Int) + (-27) = ((4 : Nat) : Int)) := ⟨by decide +kernel, by decide⟩
theorem d_Gr_standsFor_34 : decode m_Gr_standsFor.2.1 34 = .ok (.aload_n 0, 1) ∧ 34 + 1 = 35 := ⟨by decide +kernel, rfl⟩
theorem d_Gr_standsFor_35 : decode m_Gr_standsFor.2.1 35 = .ok (.getfield 9, 3) ∧ 35 + 3 = 38 := ⟨by decide +kernel, rfl⟩
theorem d_Gr_standsFor_38 : decode m_Gr_standsFor.2.1 38 = .ok (.iload_n 1, 1) ∧ 38 + 1 = 39 := ⟨by decide +kernel, rfl⟩
theorem d_Gr_standsFor_39 : decode m_Gr_standsFor.2.1 39 = .ok (.iload_n 2, 1) ∧ 39 + 1 = 40 := ⟨by decide +kernel, rfl⟩
theorem d_Gr_standsFor_40 : decode m_Gr_standsFor.2.1 40 = .ok (.iastore, 1) ∧ 40 + 1 = 41 := ⟨by decide +kernel, rfl⟩
theorem d_Gr_standsFor_41 : decode m_Gr_standsFor.2.1 41 = .ok (.iload_n 2, 1) ∧ 41 + 1 = 42 := ⟨by decide +kernel, rfl⟩
theorem d_Gr_standsFor_42 : decode m_Gr_standsFor.2.1 42 = .ok (.ireturn, 1) := by decide +kernel
theorem d_Pa_init_0 : decode m_Pa_init.2.1 0 = .ok (.aload_n 0, 1) ∧ 0 + 1 = 1 := ⟨by decide +kernel, rfl⟩
theorem d_Pa_init_1 : decode m_Pa_init.2.1 1 = .ok (.invokespecial 5, 3) ∧ 1 + 3 = 4 := ⟨by decide +kernel, rfl⟩
theorem d_Pa_init_4 : decode m_Pa_init.2.1 4 = .ok (.aload_n 0, 1) ∧ 4 + 1 = 5 := ⟨by decide +kernel, rfl⟩
theorem d_Pa_init_5 : decode m_Pa_init.2.1 5 = .ok (.bipush 24, 2) ∧ 5 + 2 = 7 ∧ (Int8.ofInt 24).toInt32 = Int32.ofInt 24 := ⟨by decide +kernel, rfl, by decide +kernel⟩
theorem d_Pa_init_7 : decode m_Pa_init.2.1 7 = .ok (.newarray .int, 2) ∧ 7 + 2 = 9 := ⟨by decide +kernel, rfl⟩
theorem d_Pa_init_9 : decode m_Pa_init.2.1 9 = .ok (.putfield 11, 3) ∧ 9 + 3 = 12 := ⟨by decide +kernel, rfl⟩
theorem d_Pa_init_12 : decode m_Pa_init.2.1 12 = .ok (.aload_n 0, 1) ∧ 12 + 1 = 13 := ⟨by decide +kernel, rfl⟩
theorem d_Pa_init_13 : decode m_Pa_init.2.1 13 = .ok (.iconst 0, 1) ∧ 13 + 1 = 14 := ⟨by decide +kernel, rfl⟩
theorem d_Pa_init_14 : decode m_Pa_init.2.1 14 = .ok (.putfield 15, 3) ∧ 14 + 3 = 17 := ⟨by decide +kernel, rfl⟩
theorem d_Pa_init_17 : decode m_Pa_init.2.1 17 = .ok (.return_, 1) := by decide +kernel
theorem d_Pa_append_0 : decode m_Pa_append.2.1 0 = .ok (.aload_n 0, 1) ∧ 0 + 1 = 1 := ⟨by decide +kernel, rfl⟩
theorem d_Pa_append_1 : decode m_Pa_append.2.1 1 = .ok (.getfield 15, 3) ∧ 1 + 3 = 4 := ⟨by decide +kernel, rfl⟩
theorem d_Pa_append_4 : decode m_Pa_append.2.1 4 = .ok (.bipush 24, 2) ∧ 4 + 2 = 6 ∧ (Int8.ofInt 24).toInt32 = Int32.ofInt 24 := ⟨by decide +kernel, rfl, by decide +kernel⟩
theorem d_Pa_append_6 : decode m_Pa_append.2.1 6 = .ok (.if_icmp .lt 5, 3) ∧ 6 + 3 = 9 ∧ (((6 : Nat) : Int) + (5) = ((11 : Nat) : Int)) := ⟨by decide +kernel, rfl, by decide⟩
theorem d_Pa_append_9 : decode m_Pa_append.2.1 9 = .ok (.iconst 0, 1) ∧ 9 + 1 = 10 := ⟨by decide +kernel, rfl⟩
theorem d_Pa_append_10 : decode m_Pa_append.2.1 10 = .ok (.ireturn, 1) := by decide +kernel
theorem d_Pa_append_11 : decode m_Pa_append.2.1 11 = .ok (.aload_n 0, 1) ∧ 11 + 1 = 12 := ⟨by decide +kernel, rfl⟩
theorem d_Pa_append_12 : decode m_Pa_append.2.1 12 = .ok (.getfield 11, 3) ∧ 12 + 3 = 15 := ⟨by decide +kernel, rfl⟩
theorem d_Pa_append_15 : decode m_Pa_append.2.1 15 = .ok (.aload_n 0, 1) ∧ 15 + 1 = 16 := ⟨by decide +kernel, rfl⟩
theorem d_Pa_append_16 : decode m_Pa_append.2.1 16 = .ok (.getfield 15, 3) ∧ 16 + 3 = 19 := ⟨by decide +kernel, rfl⟩
theorem d_Pa_append_19 : decode m_Pa_append.2.1 19 = .ok (.iload_n 1, 1) ∧ 19 + 1 = 20 := ⟨by decide +kernel, rfl⟩
theorem d_Pa_append_20 : decode m_Pa_append.2.1 20 = .ok (.iastore, 1) ∧ 20 + 1 = 21 := ⟨by decide +kernel, rfl⟩
theorem d_Pa_append_21 : decode m_Pa_append.2.1 21 = .ok (.aload_n 0, 1) ∧ 21 + 1 = 22 := ⟨by decide +kernel, rfl⟩
theorem d_Pa_append_22 : decode m_Pa_append.2.1 22 = .ok (.dup, 1) ∧ 22 + 1 = 23 := ⟨by decide +kernel, rfl⟩
theorem d_Pa_append_23 : decode m_Pa_append.2.1 23 = .ok (.getfield 15, 3) ∧ 23 + 3 = 26 := ⟨by decide +kernel, rfl⟩
theorem d_Pa_append_26 : decode m_Pa_append.2.1 26 = .ok (.iconst 1, 1) ∧ 26 + 1 = 27 := ⟨by decide +kernel, rfl⟩
theorem d_Pa_append_27 : decode m_Pa_append.2.1 27 = .ok (.iadd, 1) ∧ 27 + 1 = 28 := ⟨by decide +kernel, rfl⟩
theorem d_Pa_append_28 : decode m_Pa_append.2.1 28 = .ok (.putfield 15, 3) ∧ 28 + 3 = 31 := ⟨by decide +kernel, rfl⟩
theorem d_Pa_append_31 : decode m_Pa_append.2.1 31 = .ok (.iconst 1, 1) ∧ 31 + 1 = 32 := ⟨by decide +kernel, rfl⟩
theorem d_Pa_append_32 : decode m_Pa_append.2.1 32 = .ok (.ireturn, 1) := by decide +kernel
theorem d_Pa_firstFault_0 : decode m_Pa_firstFault.2.1 0 = .ok (.iconst 0, 1) ∧ 0 + 1 = 1 := ⟨by decide +kernel, rfl⟩
theorem d_Pa_firstFault_1 : decode m_Pa_firstFault.2.1 1 = .ok (.istore_n 1, 1) ∧ 1 + 1 = 2 := ⟨by decide +kernel, rfl⟩
theorem d_Pa_firstFault_2 : decode m_Pa_firstFault.2.1 2 = .ok (.iload_n 1, 1) ∧ 2 + 1 = 3 := ⟨by decide +kernel, rfl⟩
theorem d_Pa_firstFault_3 : decode m_Pa_firstFault.2.1 3 = .ok (.aload_n 0, 1) ∧ 3 + 1 = 4 := ⟨by decide +kernel, rfl⟩
theorem d_Pa_firstFault_4 : decode m_Pa_firstFault.2.1 4 = .ok (.getfield 15, 3) ∧ 4 + 3 = 7 := ⟨by decide +kernel, rfl⟩
theorem d_Pa_firstFault_7 : decode m_Pa_firstFault.2.1 7 = .ok (.if_icmp .ge 19, 3) ∧ 7 + 3 = 10 ∧ (((7 : Nat) : Int) + (19) = ((26 : Nat) : Int)) := ⟨by decide +kernel, rfl, by decide⟩
theorem d_Pa_firstFault_10 : decode m_Pa_firstFault.2.1 10 = .ok (.aload_n 0, 1) ∧ 10 + 1 = 11 := ⟨by decide +kernel, rfl⟩
theorem d_Pa_firstFault_11 : decode m_Pa_firstFault.2.1 11 = .ok (.iload_n 1, 1) ∧ 11 + 1 = 12 := ⟨by decide +kernel, rfl⟩
theorem d_Pa_firstFault_12 : decode m_Pa_firstFault.2.1 12 = .ok (.invokevirtual 19, 3) ∧ 12 + 3 = 15 := ⟨by decide +kernel, rfl⟩
theorem d_Pa_firstFault_15 : decode m_Pa_firstFault.2.1 15 = .ok (.ifCond .ne 5, 3) ∧ 15 + 3 = 18 ∧ (((15 : Nat) : Int) + (5) = ((20 : Nat) : Int)) := ⟨by decide +kernel, rfl, by decide⟩
theorem d_Pa_firstFault_18 : decode m_Pa_firstFault.2.1 18 = .ok (.iload_n 1, 1) ∧ 18 + 1 = 19 := ⟨by decide +kernel, rfl⟩
theorem d_Pa_firstFault_19 : decode m_Pa_firstFault.2.1 19 = .ok (.ireturn, 1) := by decide +kernel
theorem d_Pa_firstFault_20 : decode m_Pa_firstFault.2.1 20 = .ok (.iinc 1 1, 3) ∧ 20 + 3 = 23 := ⟨by decide +kernel, rfl⟩
theorem d_Pa_firstFault_23 : decode m_Pa_firstFault.2.1 23 = .ok (.goto (-21), 3) ∧ (((23 : Nat) : Int) + (-21) = ((2 : Nat) : Int)) := ⟨by decide +kernel, by decide⟩
theorem d_Pa_firstFault_26 : decode m_Pa_firstFault.2.1 26 = .ok (.aload_n 0, 1) ∧ 26 + 1 = 27 := ⟨by decide +kernel, rfl⟩
theorem d_Pa_firstFault_27 : decode m_Pa_firstFault.2.1 27 = .ok (.getfield 15, 3) ∧ 27 + 3 = 30 := ⟨by decide +kernel, rfl⟩
theorem d_Pa_firstFault_30 : decode m_Pa_firstFault.2.1 30 = .ok (.ireturn, 1) := by decide +kernel
theorem d_Pa_isPlane_0 : decode m_Pa_isPlane.2.1 0 = .ok (.aload_n 0, 1) ∧ 0 + 1 = 1 := ⟨by decide +kernel, rfl⟩
theorem d_Pa_isPlane_1 : decode m_Pa_isPlane.2.1 1 = .ok (.getfield 15, 3) ∧ 1 + 3 = 4 := ⟨by decide +kernel, rfl⟩
theorem d_Pa_isPlane_4 : decode m_Pa_isPlane.2.1 4 = .ok (.bipush 6, 2) ∧ 4 + 2 = 6 ∧ (Int8.ofInt 6).toInt32 = Int32.ofInt 6 := ⟨by decide +kernel, rfl, by decide +kernel⟩
theorem d_Pa_isPlane_6 : decode m_Pa_isPlane.2.1 6 = .ok (.irem, 1) ∧ 6 + 1 = 7 := ⟨by decide +kernel, rfl⟩
theorem d_Pa_isPlane_7 : decode m_Pa_isPlane.2.1 7 = .ok (.iconst 5, 1) ∧ 7 + 1 = 8 := ⟨by decide +kernel, rfl⟩
theorem d_Pa_isPlane_8 : decode m_Pa_isPlane.2.1 8 = .ok (.if_icmp .ne 18, 3) ∧ 8 + 3 = 11 ∧ (((8 : Nat) : Int) + (18) = ((26 : Nat) : Int)) := ⟨by decide +kernel, rfl, by decide⟩
theorem d_Pa_isPlane_11 : decode m_Pa_isPlane.2.1 11 = .ok (.aload_n 0, 1) ∧ 11 + 1 = 12 := ⟨by decide +kernel, rfl⟩
theorem d_Pa_isPlane_12 : decode m_Pa_isPlane.2.1 12 = .ok (.invokevirtual 23, 3) ∧ 12 + 3 = 15 := ⟨by decide +kernel, rfl⟩
theorem d_Pa_isPlane_15 : decode m_Pa_isPlane.2.1 15 = .ok (.aload_n 0, 1) ∧ 15 + 1 = 16 := ⟨by decide +kernel, rfl⟩
theorem d_Pa_isPlane_16 : decode m_Pa_isPlane.2.1 16 = .ok (.getfield 15, 3) ∧ 16 + 3 = 19 := ⟨by decide +kernel, rfl⟩
theorem d_Pa_isPlane_19 : decode m_Pa_isPlane.2.1 19 = .ok (.if_icmp .ne 7, 3) ∧ 19 + 3 = 22 ∧ (((19 : Nat) : Int) + (7) = ((26 : Nat) : Int)) := ⟨by decide +kernel, rfl, by decide⟩
theorem d_Pa_isPlane_22 : decode m_Pa_isPlane.2.1 22 = .ok (.iconst 1, 1) ∧ 22 + 1 = 23 := ⟨by decide +kernel, rfl⟩
theorem d_Pa_isPlane_23 : decode m_Pa_isPlane.2.1 23 = .ok (.goto 4, 3) ∧ (((23 : Nat) : Int) + (4) = ((27 : Nat) : Int)) := ⟨by decide +kernel, by decide⟩
theorem d_Pa_isPlane_26 : decode m_Pa_isPlane.2.1 26 = .ok (.iconst 0, 1) ∧ 26 + 1 = 27 := ⟨by decide +kernel, rfl⟩
theorem d_Pa_isPlane_27 : decode m_Pa_isPlane.2.1 27 = .ok (.ireturn, 1) := by decide +kernel
theorem d_Pa_fits_0 : decode m_Pa_fits.2.1 0 = .ok (.aload_n 0, 1) ∧ 0 + 1 = 1 := ⟨by decide +kernel, rfl⟩
theorem d_Pa_fits_1 : decode m_Pa_fits.2.1 1 = .ok (.getfield 11, 3) ∧ 1 + 3 = 4 := ⟨by decide +kernel, rfl⟩
theorem d_Pa_fits_4 : decode m_Pa_fits.2.1 4 = .ok (.iload_n 1, 1) ∧ 4 + 1 = 5 := ⟨by decide +kernel, rfl⟩
theorem d_Pa_fits_5 : decode m_Pa_fits.2.1 5 = .ok (.iaload, 1) ∧ 5 + 1 = 6 := ⟨by decide +kernel, rfl⟩
theorem d_Pa_fits_6 : decode m_Pa_fits.2.1 6 = .ok (.istore_n 2, 1) ∧ 6 + 1 = 7 := ⟨by decide +kernel, rfl⟩
theorem d_Pa_fits_7 : decode m_Pa_fits.2.1 7 = .ok (.iload_n 1, 1) ∧ 7 + 1 = 8 := ⟨by decide +kernel, rfl⟩
theorem d_Pa_fits_8 : decode m_Pa_fits.2.1 8 = .ok (.bipush 23, 2) ∧ 8 + 2 = 10 ∧ (Int8.ofInt 23).toInt32 = Int32.ofInt 23 := ⟨by decide +kernel, rfl, by decide +kernel⟩
theorem d_Pa_fits_10 : decode m_Pa_fits.2.1 10 = .ok (.if_icmp .lt 5, 3) ∧ 10 + 3 = 13 ∧ (((10 : Nat) : Int) + (5) = ((15 : Nat) : Int)) := ⟨by decide +kernel, rfl, by decide⟩
theorem d_Pa_fits_13 : decode m_Pa_fits.2.1 13 = .ok (.iconst 0, 1) ∧ 13 + 1 = 14 := ⟨by decide +kernel, rfl⟩
theorem d_Pa_fits_14 : decode m_Pa_fits.2.1 14 = .ok (.ireturn, 1) := by decide +kernel
theorem d_Pa_fits_15 : decode m_Pa_fits.2.1 15 = .ok (.iload_n 1, 1) ∧ 15 + 1 = 16 := ⟨by decide +kernel, rfl⟩
theorem d_Pa_fits_16 : decode m_Pa_fits.2.1 16 = .ok (.bipush 6, 2) ∧ 16 + 2 = 18 ∧ (Int8.ofInt 6).toInt32 = Int32.ofInt 6 := ⟨by decide +kernel, rfl, by decide +kernel⟩
theorem d_Pa_fits_18 : decode m_Pa_fits.2.1 18 = .ok (.irem, 1) ∧ 18 + 1 = 19 := ⟨by decide +kernel, rfl⟩
theorem d_Pa_fits_19 : decode m_Pa_fits.2.1 19 = .ok (.tableswitch 84 0 4 #[33, 48, 66, 48, 66], 33) := by decide +kernel
theorem d_Pa_fits_52 : decode m_Pa_fits.2.1 52 = .ok (.aload_n 0, 1) ∧ 52 + 1 = 53 := ⟨by decide +kernel, rfl⟩
theorem d_Pa_fits_53 : decode m_Pa_fits.2.1 53 = .ok (.iload_n 1, 1) ∧ 53 + 1 = 54 := ⟨by decide +kernel, rfl⟩
theorem d_Pa_fits_54 : decode m_Pa_fits.2.1 54 = .ok (.invokevirtual 27, 3) ∧ 54 + 3 = 57 := ⟨by decide +kernel, rfl⟩
theorem d_Pa_fits_57 : decode m_Pa_fits.2.1 57 = .ok (.iconst (-1), 1) ∧ 57 + 1 = 58 := ⟨by decide +kernel, rfl⟩
theorem d_Pa_fits_58 : decode m_Pa_fits.2.1 58 = .ok (.if_icmp .eq 7, 3) ∧ 58 + 3 = 61 ∧ (((58 : Nat) : Int) + (7) = ((65 : Nat) : Int)) := ⟨by decide +kernel, rfl, by decide⟩
theorem d_Pa_fits_61 : decode m_Pa_fits.2.1 61 = .ok (.iconst 1, 1) ∧ 61 + 1 = 62 := ⟨by decide +kernel, rfl⟩
theorem d_Pa_fits_62 : decode m_Pa_fits.2.1 62 = .ok (.goto 4, 3) ∧ (((62 : Nat) : Int) + (4) = ((66 : Nat) : Int)) := ⟨by decide +kernel, by decide⟩
theorem d_Pa_fits_65 : decode m_Pa_fits.2.1 65 = .ok (.iconst 0, 1) ∧ 65 + 1 = 66 := ⟨by decide +kernel, rfl⟩
theorem d_Pa_fits_66 : decode m_Pa_fits.2.1 66 = .ok (.ireturn, 1) := by decide +kernel
theorem d_Pa_fits_67 : decode m_Pa_fits.2.1 67 = .ok (.iload_n 2, 1) ∧ 67 + 1 = 68 := ⟨by decide +kernel, rfl⟩
theorem d_Pa_fits_68 : decode m_Pa_fits.2.1 68 = .ok (.bipush 43, 2) ∧ 68 + 2 = 70 ∧ (Int8.ofInt 43).toInt32 = Int32.ofInt 43 := ⟨by decide +kernel, rfl, by decide +kernel⟩
theorem d_Pa_fits_70 : decode m_Pa_fits.2.1 70 = .ok (.if_icmp .eq 9, 3) ∧ 70 + 3 = 73 ∧ (((70 : Nat) : Int) + (9) = ((79 : Nat) : Int)) := ⟨by decide +kernel, rfl, by decide⟩
theorem d_Pa_fits_73 : decode m_Pa_fits.2.1 73 = .ok (.iload_n 2, 1) ∧ 73 + 1 = 74 := ⟨by decide +kernel, rfl⟩
theorem d_Pa_fits_74 : decode m_Pa_fits.2.1 74 = .ok (.bipush 45, 2) ∧ 74 + 2 = 76 ∧ (Int8.ofInt 45).toInt32 = Int32.ofInt 45 := ⟨by decide +kernel, rfl, by decide +kernel⟩
theorem d_Pa_fits_76 : decode m_Pa_fits.2.1 76 = .ok (.if_icmp .ne 7, 3) ∧ 76 + 3 = 79 ∧ (((76 : Nat) : Int) + (7) = ((83 : Nat) : Int)) := ⟨by decide +kernel, rfl, by decide⟩
theorem d_Pa_fits_79 : decode m_Pa_fits.2.1 79 = .ok (.iconst 1, 1) ∧ 79 + 1 = 80 := ⟨by decide +kernel, rfl⟩
theorem d_Pa_fits_80 : decode m_Pa_fits.2.1 80 = .ok (.goto 4, 3) ∧ (((80 : Nat) : Int) + (4) = ((84 : Nat) : Int)) := ⟨by decide +kernel, by decide⟩
theorem d_Pa_fits_83 : decode m_Pa_fits.2.1 83 = .ok (.iconst 0, 1) ∧ 83 + 1 = 84 := ⟨by decide +kernel, rfl⟩
theorem d_Pa_fits_84 : decode m_Pa_fits.2.1 84 = .ok (.ireturn, 1) := by decide +kernel
theorem d_Pa_fits_85 : decode m_Pa_fits.2.1 85 = .ok (.iload_n 2, 1) ∧ 85 + 1 = 86 := ⟨by decide +kernel, rfl⟩
theorem d_Pa_fits_86 : decode m_Pa_fits.2.1 86 = .ok (.bipush 48, 2) ∧ 86 + 2 = 88 ∧ (Int8.ofInt 48).toInt32 = Int32.ofInt 48 := ⟨by decide +kernel, rfl, by decide +kernel⟩
theorem d_Pa_fits_88 : decode m_Pa_fits.2.1 88 = .ok (.if_icmp .lt 13, 3) ∧ 88 + 3 = 91 ∧ (((88 : Nat) : Int) + (13) = ((101 : Nat) : Int)) := ⟨by decide +kernel, rfl, by decide⟩
theorem d_Pa_fits_91 : decode m_Pa_fits.2.1 91 = .ok (.iload_n 2, 1) ∧ 91 + 1 = 92 := ⟨by decide +kernel, rfl⟩
theorem d_Pa_fits_92 : decode m_Pa_fits.2.1 92 = .ok (.bipush 57, 2) ∧ 92 + 2 = 94 ∧ (Int8.ofInt 57).toInt32 = Int32.ofInt 57 := ⟨by decide +kernel, rfl, by decide +kernel⟩
theorem d_Pa_fits_94 : decode m_Pa_fits.2.1 94 = .ok (.if_icmp .gt 7, 3) ∧ 94 + 3 = 97 ∧ (((94 : Nat) : Int) + (7) = ((101 : Nat) : Int)) := ⟨by decide +kernel, rfl, by decide⟩
theorem d_Pa_fits_97 : decode m_Pa_fits.2.1 97 = .ok (.iconst 1, 1) ∧ 97 + 1 = 98 := ⟨by decide +kernel, rfl⟩
theorem d_Pa_fits_98 : decode m_Pa_fits.2.1 98 = .ok (.goto 4, 3) ∧ (((98 : Nat) : Int) + (4) = ((102 : Nat) : Int)) := ⟨by decide +kernel, by decide⟩
theorem d_Pa_fits_101 : decode m_Pa_fits.2.1 101 = .ok (.iconst 0, 1) ∧ 101 + 1 = 102 := ⟨by decide +kernel, rfl⟩
theorem d_Pa_fits_102 : decode m_Pa_fits.2.1 102 = .ok (.ireturn, 1) := by decide +kernel
theorem d_Pa_fits_103 : decode m_Pa_fits.2.1 103 = .ok (.iload_n 2, 1) ∧ 103 + 1 = 104 := ⟨by decide +kernel, rfl⟩
theorem d_Pa_fits_104 : decode m_Pa_fits.2.1 104 = .ok (.bipush 44, 2) ∧ 104 + 2 = 106 ∧ (Int8.ofInt 44).toInt32 = Int32.ofInt 44 := ⟨by decide +kernel, rfl, by decide +kernel⟩
theorem d_Pa_fits_106 : decode m_Pa_fits.2.1 106 = .ok (.if_icmp .ne 7, 3) ∧ 106 + 3 = 109 ∧ (((106 : Nat) : Int) + (7) = ((113 : Nat) : Int)) := ⟨by decide +kernel, rfl, by decide⟩
theorem d_Pa_fits_109 : decode m_Pa_fits.2.1 109 = .ok (.iconst 1, 1) ∧ 109 + 1 = 110 := ⟨by decide +kernel, rfl⟩
theorem d_Pa_fits_110 : decode m_Pa_fits.2.1 110 = .ok (.goto 4, 3) ∧ (((110 : Nat) : Int) + (4) = ((114 : Nat) : Int)) := ⟨by decide +kernel, by decide⟩
theorem d_Pa_fits_113 : decode m_Pa_fits.2.1 113 = .ok (.iconst 0, 1) ∧ 113 + 1 = 114 := ⟨by decide +kernel, rfl⟩
theorem d_Pa_fits_114 : decode m_Pa_fits.2.1 114 = .ok (.ireturn, 1) := by decide +kernel
theorem d_Pa_kindAt_0 : decode m_Pa_kindAt.2.1 0 = .ok (.aload_n 0, 1) ∧ 0 + 1 = 1 := ⟨by decide +kernel, rfl⟩
theorem d_Pa_kindAt_1 : decode m_Pa_kindAt.2.1 1 = .ok (.getfield 11, 3) ∧ 1 + 3 = 4 := ⟨by decide +kernel, rfl⟩
theorem d_Pa_kindAt_4 : decode m_Pa_kindAt.2.1 4 = .ok (.iload_n 1, 1) ∧ 4 + 1 = 5 := ⟨by decide +kernel, rfl⟩
theorem d_Pa_kindAt_5 : decode m_Pa_kindAt.2.1 5 = .ok (.iaload, 1) ∧ 5 + 1 = 6 := ⟨by decide +kernel, rfl⟩
theorem d_Pa_kindAt_6 : decode m_Pa_kindAt.2.1 6 = .ok (.lookupswitch 60 #[(102, 58), (104, 54), (108, 52), (112, 50), (117, 56)], 50) := by decide +kernel
theorem d_Pa_kindAt_56 : decode m_Pa_kindAt.2.1 56 = .ok (.iconst 0, 1) ∧ 56 + 1 = 57 := ⟨by decide +kernel, rfl⟩
theorem d_Pa_kindAt_57 : decode m_Pa_kindAt.2.1 57 = .ok (.ireturn, 1) := by decide +kernel
theorem d_Pa_kindAt_58 : decode m_Pa_kindAt.2.1 58 = .ok (.iconst 1, 1) ∧ 58 + 1 = 59 := ⟨by decide +kernel, rfl⟩
theorem d_Pa_kindAt_59 : decode m_Pa_kindAt.2.1 59 = .ok (.ireturn, 1) := by decide +kernel
theorem d_Pa_kindAt_60 : decode m_Pa_kindAt.2.1 60 = .ok (.iconst 2, 1) ∧ 60 + 1 = 61 := ⟨by decide +kernel, rfl⟩
theorem d_Pa_kindAt_61 : decode m_Pa_kindAt.2.1 61 = .ok (.ireturn, 1) := by decide +kernel
theorem d_Pa_kindAt_62 : decode m_Pa_kindAt.2.1 62 = .ok (.iconst 3, 1) ∧ 62 + 1 = 63 := ⟨by decide +kernel, rfl⟩
theorem d_Pa_kindAt_63 : decode m_Pa_kindAt.2.1 63 = .ok (.ireturn, 1) := by decide +kernel
theorem d_Pa_kindAt_64 : decode m_Pa_kindAt.2.1 64 = .ok (.iconst 4, 1) ∧ 64 + 1 = 65 := ⟨by decide +kernel, rfl⟩
theorem d_Pa_kindAt_65 : decode m_Pa_kindAt.2.1 65 = .ok (.ireturn, 1) := by decide +kernel
theorem d_Pa_kindAt_66 : decode m_Pa_kindAt.2.1 66 = .ok (.iconst (-1), 1) ∧ 66 + 1 = 67 := ⟨by decide +kernel, rfl⟩
theorem d_Pa_kindAt_67 : decode m_Pa_kindAt.2.1 67 = .ok (.ireturn, 1) := by decide +kernel
theorem d_Pa_numberAt_0 : decode m_Pa_numberAt.2.1 0 = .ok (.aload_n 0, 1) ∧ 0 + 1 = 1 := ⟨by decide +kernel, rfl⟩
theorem d_Pa_numberAt_1 : decode m_Pa_numberAt.2.1 1 = .ok (.getfield 11, 3) ∧ 1 + 3 = 4 := ⟨by decide +kernel, rfl⟩
theorem d_Pa_numberAt_4 : decode m_Pa_numberAt.2.1 4 = .ok (.iload_n 1, 1) ∧ 4 + 1 = 5 := ⟨by decide +kernel, rfl⟩
theorem d_Pa_numberAt_5 : decode m_Pa_numberAt.2.1 5 = .ok (.iconst 1, 1) ∧ 5 + 1 = 6 := ⟨by decide +kernel, rfl⟩
theorem d_Pa_numberAt_6 : decode m_Pa_numberAt.2.1 6 = .ok (.iadd, 1) ∧ 6 + 1 = 7 := ⟨by decide +kernel, rfl⟩
theorem d_Pa_numberAt_7 : decode m_Pa_numberAt.2.1 7 = .ok (.iaload, 1) ∧ 7 + 1 = 8 := ⟨by decide +kernel, rfl⟩
theorem d_Pa_numberAt_8 : decode m_Pa_numberAt.2.1 8 = .ok (.bipush 48, 2) ∧ 8 + 2 = 10 ∧ (Int8.ofInt 48).toInt32 = Int32.ofInt 48 := ⟨by decide +kernel, rfl, by decide +kernel⟩
theorem d_Pa_numberAt_10 : decode m_Pa_numberAt.2.1 10 = .ok (.isub, 1) ∧ 10 + 1 = 11 := ⟨by decide +kernel, rfl⟩
theorem d_Pa_numberAt_11 : decode m_Pa_numberAt.2.1 11 = .ok (.istore_n 2, 1) ∧ 11 + 1 = 12 := ⟨by decide +kernel, rfl⟩
theorem d_Pa_numberAt_12 : decode m_Pa_numberAt.2.1 12 = .ok (.aload_n 0, 1) ∧ 12 + 1 = 13 := ⟨by decide +kernel, rfl⟩
theorem d_Pa_numberAt_13 : decode m_Pa_numberAt.2.1 13 = .ok (.getfield 11, 3) ∧ 13 + 3 = 16 := ⟨by decide +kernel, rfl⟩
theorem d_Pa_numberAt_16 : decode m_Pa_numberAt.2.1 16 = .ok (.iload_n 1, 1) ∧ 16 + 1 = 17 := ⟨by decide +kernel, rfl⟩
theorem d_Pa_numberAt_17 : decode m_Pa_numberAt.2.1 17 = .ok (.iaload, 1) ∧ 17 + 1 = 18 := ⟨by decide +kernel, rfl⟩
theorem d_Pa_numberAt_18 : decode m_Pa_numberAt.2.1 18 = .ok (.bipush 45, 2) ∧ 18 + 2 = 20 ∧ (Int8.ofInt 45).toInt32 = Int32.ofInt 45 := ⟨by decide +kernel, rfl, by decide +kernel⟩
theorem d_Pa_numberAt_20 : decode m_Pa_numberAt.2.1 20 = .ok (.if_icmp .ne 8, 3) ∧ 20 + 3 = 23 ∧ (((20 : Nat) : Int) + (8) = ((28 : Nat) : Int)) := ⟨by decide +kernel, rfl, by decide⟩
theorem d_Pa_numberAt_23 : decode m_Pa_numberAt.2.1 23 = .ok (.iload_n 2, 1) ∧ 23 + 1 = 24 := ⟨by decide +kernel, rfl⟩
theorem d_Pa_numberAt_24 : decode m_Pa_numberAt.2.1 24 = .ok (.ineg, 1) ∧ 24 + 1 = 25 := ⟨by decide +kernel, rfl⟩
theorem d_Pa_numberAt_25 : decode m_Pa_numberAt.2.1 25 = .ok (.goto 4, 3) ∧ (((25 : Nat) : Int) + (4) = ((29 : Nat) : Int)) := ⟨by decide +kernel, by decide⟩
theorem d_Pa_numberAt_28 : decode m_Pa_numberAt.2.1 28 = .ok (.iload_n 2, 1) ∧ 28 + 1 = 29 := ⟨by decide +kernel, rfl⟩
theorem d_Pa_numberAt_29 : decode m_Pa_numberAt.2.1 29 = .ok (.ireturn, 1) := by decide +kernel
theorem d_Ri_init_0 : decode m_Ri_init.2.1 0 = .ok (.aload_n 0, 1) ∧ 0 + 1 = 1 := ⟨by decide +kernel, rfl⟩
theorem d_Ri_init_1 : decode m_Ri_init.2.1 1 = .ok (.invokespecial 3, 3) ∧ 1 + 3 = 4 := ⟨by decide +kernel, rfl⟩
theorem d_Ri_init_4 : decode m_Ri_init.2.1 4 = .ok (.aload_n 0, 1) ∧ 4 + 1 = 5 := ⟨by decide +kernel, rfl⟩
theorem d_Ri_init_5 : decode m_Ri_init.2.1 5 = .ok (.bipush 8, 2) ∧ 5 + 2 = 7 ∧ (Int8.ofInt 8).toInt32 = Int32.ofInt 8 := ⟨by decide +kernel, rfl, by decide +kernel⟩
theorem d_Ri_init_7 : decode m_Ri_init.2.1 7 = .ok (.newarray .int, 2) ∧ 7 + 2 = 9 := ⟨by decide +kernel, rfl⟩
theorem d_Ri_init_9 : decode m_Ri_init.2.1 9 = .ok (.putfield 9, 3) ∧ 9 + 3 = 12 := ⟨by decide +kernel, rfl⟩
theorem d_Ri_init_12 : decode m_Ri_init.2.1 12 = .ok (.aload_n 0, 1) ∧ 12 + 1 = 13 := ⟨by decide +kernel, rfl⟩
theorem d_Ri_init_13 : decode m_Ri_init.2.1 13 = .ok (.iconst 0, 1) ∧ 13 + 1 = 14 := ⟨by decide +kernel, rfl⟩
theorem d_Ri_init_14 : decode m_Ri_init.2.1 14 = .ok (.putfield 15, 3) ∧ 14 + 3 = 17 := ⟨by decide +kernel, rfl⟩
theorem d_Ri_init_17 : decode m_Ri_init.2.1 17 = .ok (.aload_n 0, 1) ∧ 17 + 1 = 18 := ⟨by decide +kernel, rfl⟩
theorem d_Ri_init_18 : decode m_Ri_init.2.1 18 = .ok (.iconst 0, 1) ∧ 18 + 1 = 19 := ⟨by decide +kernel, rfl⟩
theorem d_Ri_init_19 : decode m_Ri_init.2.1 19 = .ok (.putfield 19, 3) ∧ 19 + 3 = 22 := ⟨by decide +kernel, rfl⟩
theorem d_Ri_init_22 : decode m_Ri_init.2.1 22 = .ok (.return_, 1) := by decide +kernel
theorem d_Ri_append_0 : decode m_Ri_append.2.1 0 = .ok (.aload_n 0, 1) ∧ 0 + 1 = 1 := ⟨by decide +kernel, rfl⟩
theorem d_Ri_append_1 : decode m_Ri_append.2.1 1 = .ok (.getfield 9, 3) ∧ 1 + 3 = 4 := ⟨by decide +kernel, rfl⟩
theorem d_Ri_append_4 : decode m_Ri_append.2.1 4 = .ok (.aload_n 0, 1) ∧ 4 + 1 = 5 := ⟨by decide +kernel, rfl⟩
theorem d_Ri_append_5 : decode m_Ri_append.2.1 5 = .ok (.getfield 15, 3) ∧ 5 + 3 = 8 := ⟨by decide +kernel, rfl⟩
theorem d_Ri_append_8 : decode m_Ri_append.2.1 8 = .ok (.iload_n 1, 1) ∧ 8 + 1 = 9 := ⟨by decide +kernel, rfl⟩
theorem d_Ri_append_9 : decode m_Ri_append.2.1 9 = .ok (.iastore, 1) ∧ 9 + 1 = 10 := ⟨by decide +kernel, rfl⟩
theorem d_Ri_append_10 : decode m_Ri_append.2.1 10 = .ok (.aload_n 0, 1) ∧ 10 + 1 = 11 := ⟨by decide +kernel, rfl⟩
theorem d_Ri_append_11 : decode m_Ri_append.2.1 11 = .ok (.aload_n 0, 1) ∧ 11 + 1 = 12 := ⟨by decide +kernel, rfl⟩
theorem d_Ri_append_12 : decode m_Ri_append.2.1 12 = .ok (.getfield 15, 3) ∧ 12 + 3 = 15 := ⟨by decide +kernel, rfl⟩
theorem d_Ri_append_15 : decode m_Ri_append.2.1 15 = .ok (.iconst 1, 1) ∧ 15 + 1 = 16 := ⟨by decide +kernel, rfl⟩
theorem d_Ri_append_16 : decode m_Ri_append.2.1 16 = .ok (.iadd, 1) ∧ 16 + 1 = 17 := ⟨by decide +kernel, rfl⟩
theorem d_Ri_append_17 : decode m_Ri_append.2.1 17 = .ok (.bipush 8, 2) ∧ 17 + 2 = 19 ∧ (Int8.ofInt 8).toInt32 = Int32.ofInt 8 := ⟨by decide +kernel, rfl, by decide +kernel⟩
theorem d_Ri_append_19 : decode m_Ri_append.2.1 19 = .ok (.irem, 1) ∧ 19 + 1 = 20 := ⟨by decide +kernel, rfl⟩
theorem d_Ri_append_20 : decode m_Ri_append.2.1 20 = .ok (.putfield 15, 3) ∧ 20 + 3 = 23 := ⟨by decide +kernel, rfl⟩
theorem d_Ri_append_23 : decode m_Ri_append.2.1 23 = .ok (.aload_n 0, 1) ∧ 23 + 1 = 24 := ⟨by decide +kernel, rfl⟩
theorem d_Ri_append_24 : decode m_Ri_append.2.1 24 = .ok (.aload_n 0, 1) ∧ 24 + 1 = 25 := ⟨by decide +kernel, rfl⟩
theorem d_Ri_append_25 : decode m_Ri_append.2.1 25 = .ok (.getfield 19, 3) ∧ 25 + 3 = 28 := ⟨by decide +kernel, rfl⟩
theorem d_Ri_append_28 : decode m_Ri_append.2.1 28 = .ok (.iconst 1, 1) ∧ 28 + 1 = 29 := ⟨by decide +kernel, rfl⟩
theorem d_Ri_append_29 : decode m_Ri_append.2.1 29 = .ok (.iadd, 1) ∧ 29 + 1 = 30 := ⟨by decide +kernel, rfl⟩
theorem d_Ri_append_30 : decode m_Ri_append.2.1 30 = .ok (.bipush 8, 2) ∧ 30 + 2 = 32 ∧ (Int8.ofInt 8).toInt32 = Int32.ofInt 8 := ⟨by decide +kernel, rfl, by decide +kernel⟩
theorem d_Ri_append_32 : decode m_Ri_append.2.1 32 = .ok (.invokestatic 22, 3) ∧ 32 + 3 = 35 := ⟨by decide +kernel, rfl⟩
theorem d_Ri_append_35 : decode m_Ri_append.2.1 35 = .ok (.putfield 19, 3) ∧ 35 + 3 = 38 := ⟨by decide +kernel, rfl⟩
theorem d_Ri_append_38 : decode m_Ri_append.2.1 38 = .ok (.return_, 1) := by decide +kernel
theorem d_Ri_back_0 : decode m_Ri_back.2.1 0 = .ok (.aload_n 0, 1) ∧ 0 + 1 = 1 := ⟨by decide +kernel, rfl⟩
theorem d_Ri_back_1 : decode m_Ri_back.2.1 1 = .ok (.getfield 9, 3) ∧ 1 + 3 = 4 := ⟨by decide +kernel, rfl⟩
theorem d_Ri_back_4 : decode m_Ri_back.2.1 4 = .ok (.aload_n 0, 1) ∧ 4 + 1 = 5 := ⟨by decide +kernel, rfl⟩
theorem d_Ri_back_5 : decode m_Ri_back.2.1 5 = .ok (.getfield 15, 3) ∧ 5 + 3 = 8 := ⟨by decide +kernel, rfl⟩
theorem d_Ri_back_8 : decode m_Ri_back.2.1 8 = .ok (.iconst 1, 1) ∧ 8 + 1 = 9 := ⟨by decide +kernel, rfl⟩
theorem d_Ri_back_9 : decode m_Ri_back.2.1 9 = .ok (.isub, 1) ∧ 9 + 1 = 10 := ⟨by decide +kernel, rfl⟩
theorem d_Ri_back_10 : decode m_Ri_back.2.1 10 = .ok (.iload_n 1, 1) ∧ 10 + 1 = 11 := ⟨by decide +kernel, rfl⟩
theorem d_Ri_back_11 : decode m_Ri_back.2.1 11 = .ok (.isub, 1) ∧ 11 + 1 = 12 := ⟨by decide +kernel, rfl⟩
theorem d_Ri_back_12 : decode m_Ri_back.2.1 12 = .ok (.bipush 8, 2) ∧ 12 + 2 = 14 ∧ (Int8.ofInt 8).toInt32 = Int32.ofInt 8 := ⟨by decide +kernel, rfl, by decide +kernel⟩
theorem d_Ri_back_14 : decode m_Ri_back.2.1 14 = .ok (.invokestatic 28, 3) ∧ 14 + 3 = 17 := ⟨by decide +kernel, rfl⟩
theorem d_Ri_back_17 : decode m_Ri_back.2.1 17 = .ok (.iaload, 1) ∧ 17 + 1 = 18 := ⟨by decide +kernel, rfl⟩
theorem d_Ri_back_18 : decode m_Ri_back.2.1 18 = .ok (.ireturn, 1) := by decide +kernel
theorem d_Ro_init_0 : decode m_Ro_init.2.1 0 = .ok (.aload_n 0, 1) ∧ 0 + 1 = 1 := ⟨by decide +kernel, rfl⟩
theorem d_Ro_init_1 : decode m_Ro_init.2.1 1 = .ok (.invokespecial 1, 3) ∧ 1 + 3 = 4 := ⟨by decide +kernel, rfl⟩
theorem d_Ro_init_4 : decode m_Ro_init.2.1 4 = .ok (.aload_n 0, 1) ∧ 4 + 1 = 5 := ⟨by decide +kernel, rfl⟩
theorem d_Ro_init_5 : decode m_Ro_init.2.1 5 = .ok (.lconst 0, 1) ∧ 5 + 1 = 6 := ⟨by decide +kernel, rfl⟩
theorem d_Ro_init_6 : decode m_Ro_init.2.1 6 = .ok (.putfield 7, 3) ∧ 6 + 3 = 9 := ⟨by decide +kernel, rfl⟩
theorem d_Ro_init_9 : decode m_Ro_init.2.1 9 = .ok (.aload_n 0, 1) ∧ 9 + 1 = 10 := ⟨by decide +kernel, rfl⟩
theorem d_Ro_init_10 : decode m_Ro_init.2.1 10 = .ok (.lconst 0, 1) ∧ 10 + 1 = 11 := ⟨by decide +kernel, rfl⟩
theorem d_Ro_init_11 : decode m_Ro_init.2.1 11 = .ok (.putfield 13, 3) ∧ 11 + 3 = 14 := ⟨by decide +kernel, rfl⟩
theorem d_Ro_init_14 : decode m_Ro_init.2.1 14 = .ok (.aload_n 0, 1) ∧ 14 + 1 = 15 := ⟨by decide +kernel, rfl⟩
theorem d_Ro_init_15 : decode m_Ro_init.2.1 15 = .ok (.lconst 0, 1) ∧ 15 + 1 = 16 := ⟨by decide +kernel, rfl⟩
theorem d_Ro_init_16 : decode m_Ro_init.2.1 16 = .ok (.putfield 16, 3) ∧ 16 + 3 = 19 := ⟨by decide +kernel, rfl⟩
theorem d_Ro_init_19 : decode m_Ro_init.2.1 19 = .ok (.aload_n 0, 1) ∧ 19 + 1 = 20 := ⟨by decide +kernel, rfl⟩
theorem d_Ro_init_20 : decode m_Ro_init.2.1 20 = .ok (.lconst 1, 1) ∧ 20 + 1 = 21 := ⟨by decide +kernel, rfl⟩
theorem d_Ro_init_21 : decode m_Ro_init.2.1 21 = .ok (.putfield 19, 3) ∧ 21 + 3 = 24 := ⟨by decide +kernel, rfl⟩
theorem d_Ro_init_24 : decode m_Ro_init.2.1 24 = .ok (.return_, 1) := by decide +kernel
theorem d_Ro_write_0 : decode m_Ro_write.2.1 0 = .ok (.lload 7, 2) ∧ 0 + 2 = 2 := ⟨by decide +kernel, rfl⟩
theorem d_Ro_write_2 : decode m_Ro_write.2.1 2 = .ok (.lconst 0, 1) ∧ 2 + 1 = 3 := ⟨by decide +kernel, rfl⟩
theorem d_Ro_write_3 : decode m_Ro_write.2.1 3 = .ok (.lcmp, 1) ∧ 3 + 1 = 4 := ⟨by decide +kernel, rfl⟩
theorem d_Ro_write_4 : decode m_Ro_write.2.1 4 = .ok (.ifCond .ge 9, 3) ∧ 4 + 3 = 7 ∧ (((4 : Nat) : Int) + (9) = ((13 : Nat) : Int)) := ⟨by decide +kernel, rfl, by decide⟩
theorem d_Ro_write_7 : decode m_Ro_write.2.1 7 = .ok (.ldc2_w 22, 3) ∧ 7 + 3 = 10 := ⟨by decide +kernel, rfl⟩
theorem d_Ro_write_10 : decode m_Ro_write.2.1 10 = .ok (.goto 4, 3) ∧ (((10 : Nat) : Int) + (4) = ((14 : Nat) : Int)) := ⟨by decide +kernel, by decide⟩
theorem d_Ro_write_13 : decode m_Ro_write.2.1 13 = .ok (.lconst 1, 1) ∧ 13 + 1 = 14 := ⟨by decide +kernel, rfl⟩
theorem d_Ro_write_14 : decode m_Ro_write.2.1 14 = .ok (.lstore 9, 2) ∧ 14 + 2 = 16 := ⟨by decide +kernel, rfl⟩
theorem d_Ro_write_16 : decode m_Ro_write.2.1 16 = .ok (.aload_n 0, 1) ∧ 16 + 1 = 17 := ⟨by decide +kernel, rfl⟩
theorem d_Ro_write_17 : decode m_Ro_write.2.1 17 = .ok (.lload 9, 2) ∧ 17 + 2 = 19 := ⟨by decide +kernel, rfl⟩
theorem d_Ro_write_19 : decode m_Ro_write.2.1 19 = .ok (.lload_n 1, 1) ∧ 19 + 1 = 20 := ⟨by decide +kernel, rfl⟩
theorem d_Ro_write_20 : decode m_Ro_write.2.1 20 = .ok (.lmul, 1) ∧ 20 + 1 = 21 := ⟨by decide +kernel, rfl⟩
theorem d_Ro_write_21 : decode m_Ro_write.2.1 21 = .ok (.putfield 7, 3) ∧ 21 + 3 = 24 := ⟨by decide +kernel, rfl⟩
theorem d_Ro_write_24 : decode m_Ro_write.2.1 24 = .ok (.aload_n 0, 1) ∧ 24 + 1 = 25 := ⟨by decide +kernel, rfl⟩
theorem d_Ro_write_25 : decode m_Ro_write.2.1 25 = .ok (.lload 9, 2) ∧ 25 + 2 = 27 := ⟨by decide +kernel, rfl⟩
theorem d_Ro_write_27 : decode m_Ro_write.2.1 27 = .ok (.lload_n 3, 1) ∧ 27 + 1 = 28 := ⟨by decide +kernel, rfl⟩
theorem d_Ro_write_28 : decode m_Ro_write.2.1 28 = .ok (.lmul, 1) ∧ 28 + 1 = 29 := ⟨by decide +kernel, rfl⟩
theorem d_Ro_write_29 : decode m_Ro_write.2.1 29 = .ok (.putfield 13, 3) ∧ 29 + 3 = 32 := ⟨by decide +kernel, rfl⟩
theorem d_Ro_write_32 : decode m_Ro_write.2.1 32 = .ok (.aload_n 0, 1) ∧ 32 + 1 = 33 := ⟨by decide +kernel, rfl⟩
theorem d_Ro_write_33 : decode m_Ro_write.2.1 33 = .ok (.lload 5, 2) ∧ 33 + 2 = 35 := ⟨by decide +kernel, rfl⟩
theorem d_Ro_write_35 : decode m_Ro_write.2.1 35 = .ok (.putfield 16, 3) ∧ 35 + 3 = 38 := ⟨by decide +kernel, rfl⟩
theorem d_Ro_write_38 : decode m_Ro_write.2.1 38 = .ok (.aload_n 0, 1) ∧ 38 + 1 = 39 := ⟨by decide +kernel, rfl⟩
theorem d_Ro_write_39 : decode m_Ro_write.2.1 39 = .ok (.lload 9, 2) ∧ 39 + 2 = 41 := ⟨by decide +kernel, rfl⟩
theorem d_Ro_write_41 : decode m_Ro_write.2.1 41 = .ok (.lload 7, 2) ∧ 41 + 2 = 43 := ⟨by decide +kernel, rfl⟩
theorem d_Ro_write_43 : decode m_Ro_write.2.1 43 = .ok (.lmul, 1) ∧ 43 + 1 = 44 := ⟨by decide +kernel, rfl⟩
theorem d_Ro_write_44 : decode m_Ro_write.2.1 44 = .ok (.putfield 19, 3) ∧ 44 + 3 = 47 := ⟨by decide +kernel, rfl⟩
theorem d_Ro_write_47 : decode m_Ro_write.2.1 47 = .ok (.return_, 1) := by decide +kernel
theorem d_Ro_isFraction_0 : decode m_Ro_isFraction.2.1 0 = .ok (.aload_n 0, 1) ∧ 0 + 1 = 1 := ⟨by decide +kernel, rfl⟩
theorem d_Ro_isFraction_1 : decode m_Ro_isFraction.2.1 1 = .ok (.getfield 13, 3) ∧ 1 + 3 = 4 := ⟨by decide +kernel, rfl⟩
theorem d_Ro_isFraction_4 : decode m_Ro_isFraction.2.1 4 = .ok (.lconst 0, 1) ∧ 4 + 1 = 5 := ⟨by decide +kernel, rfl⟩
theorem d_Ro_isFraction_5 : decode m_Ro_isFraction.2.1 5 = .ok (.lcmp, 1) ∧ 5 + 1 = 6 := ⟨by decide +kernel, rfl⟩
theorem d_Ro_isFraction_6 : decode m_Ro_isFraction.2.1 6 = .ok (.ifCond .ne 7, 3) ∧ 6 + 3 = 9 ∧ (((6 : Nat) : Int) + (7) = ((13 : Nat) : Int)) := ⟨by decide +kernel, rfl, by decide⟩
theorem d_Ro_isFraction_9 : decode m_Ro_isFraction.2.1 9 = .ok (.iconst 1, 1) ∧ 9 + 1 = 10 := ⟨by decide +kernel, rfl⟩
theorem d_Ro_isFraction_10 : decode m_Ro_isFraction.2.1 10 = .ok (.goto 4, 3) ∧ (((10 : Nat) : Int) + (4) = ((14 : Nat) : Int)) := ⟨by decide +kernel, by decide⟩
theorem d_Ro_isFraction_13 : decode m_Ro_isFraction.2.1 13 = .ok (.iconst 0, 1) ∧ 13 + 1 = 14 := ⟨by decide +kernel, rfl⟩
theorem d_Ro_isFraction_14 : decode m_Ro_isFraction.2.1 14 = .ok (.ireturn, 1) := by decide +kernel
theorem d_Ro_orderTo_0 : decode m_Ro_orderTo.2.1 0 = .ok (.aload_n 0, 1) ∧ 0 + 1 = 1 := ⟨by decide +kernel, rfl⟩
theorem d_Ro_orderTo_1 : decode m_Ro_orderTo.2.1 1 = .ok (.getfield 7, 3) ∧ 1 + 3 = 4 := ⟨by decide +kernel, rfl⟩
theorem d_Ro_orderTo_4 : decode m_Ro_orderTo.2.1 4 = .ok (.aload_n 1, 1) ∧ 4 + 1 = 5 := ⟨by decide +kernel, rfl⟩
theorem d_Ro_orderTo_5 : decode m_Ro_orderTo.2.1 5 = .ok (.getfield 19, 3) ∧ 5 + 3 = 8 := ⟨by decide +kernel, rfl⟩
theorem d_Ro_orderTo_8 : decode m_Ro_orderTo.2.1 8 = .ok (.lmul, 1) ∧ 8 + 1 = 9 := ⟨by decide +kernel, rfl⟩
theorem d_Ro_orderTo_9 : decode m_Ro_orderTo.2.1 9 = .ok (.aload_n 1, 1) ∧ 9 + 1 = 10 := ⟨by decide +kernel, rfl⟩
theorem d_Ro_orderTo_10 : decode m_Ro_orderTo.2.1 10 = .ok (.getfield 7, 3) ∧ 10 + 3 = 13 := ⟨by decide +kernel, rfl⟩
theorem d_Ro_orderTo_13 : decode m_Ro_orderTo.2.1 13 = .ok (.aload_n 0, 1) ∧ 13 + 1 = 14 := ⟨by decide +kernel, rfl⟩
theorem d_Ro_orderTo_14 : decode m_Ro_orderTo.2.1 14 = .ok (.getfield 19, 3) ∧ 14 + 3 = 17 := ⟨by decide +kernel, rfl⟩
theorem d_Ro_orderTo_17 : decode m_Ro_orderTo.2.1 17 = .ok (.lmul, 1) ∧ 17 + 1 = 18 := ⟨by decide +kernel, rfl⟩
theorem d_Ro_orderTo_18 : decode m_Ro_orderTo.2.1 18 = .ok (.lsub, 1) ∧ 18 + 1 = 19 := ⟨by decide +kernel, rfl⟩
theorem d_Ro_orderTo_19 : decode m_Ro_orderTo.2.1 19 = .ok (.lstore_n 2, 1) ∧ 19 + 1 = 20 := ⟨by decide +kernel, rfl⟩
theorem d_Ro_orderTo_20 : decode m_Ro_orderTo.2.1 20 = .ok (.lload_n 2, 1) ∧ 20 + 1 = 21 := ⟨by decide +kernel, rfl⟩
theorem d_Ro_orderTo_21 : decode m_Ro_orderTo.2.1 21 = .ok (.aload_n 0, 1) ∧ 21 + 1 = 22 := ⟨by decide +kernel, rfl⟩
theorem d_Ro_orderTo_22 : decode m_Ro_orderTo.2.1 22 = .ok (.getfield 13, 3) ∧ 22 + 3 = 25 := ⟨by decide +kernel, rfl⟩
theorem d_Ro_orderTo_25 : decode m_Ro_orderTo.2.1 25 = .ok (.aload_n 1, 1) ∧ 25 + 1 = 26 := ⟨by decide +kernel, rfl⟩
theorem d_Ro_orderTo_26 : decode m_Ro_orderTo.2.1 26 = .ok (.getfield 19, 3) ∧ 26 + 3 = 29 := ⟨by decide +kernel, rfl⟩
theorem d_Ro_orderTo_29 : decode m_Ro_orderTo.2.1 29 = .ok (.lmul, 1) ∧ 29 + 1 = 30 := ⟨by decide +kernel, rfl⟩
theorem d_Ro_orderTo_30 : decode m_Ro_orderTo.2.1 30 = .ok (.aload_n 0, 1) ∧ 30 + 1 = 31 := ⟨by decide +kernel, rfl⟩
theorem d_Ro_orderTo_31 : decode m_Ro_orderTo.2.1 31 = .ok (.getfield 16, 3) ∧ 31 + 3 = 34 := ⟨by decide +kernel, rfl⟩
theorem d_Ro_orderTo_34 : decode m_Ro_orderTo.2.1 34 = .ok (.aload_n 1, 1) ∧ 34 + 1 = 35 := ⟨by decide +kernel, rfl⟩
theorem d_Ro_orderTo_35 : decode m_Ro_orderTo.2.1 35 = .ok (.getfield 13, 3) ∧ 35 + 3 = 38 := ⟨by decide +kernel, rfl⟩
theorem d_Ro_orderTo_38 : decode m_Ro_orderTo.2.1 38 = .ok (.lneg, 1) ∧ 38 + 1 = 39 := ⟨by decide +kernel, rfl⟩
theorem d_Ro_orderTo_39 : decode m_Ro_orderTo.2.1 39 = .ok (.aload_n 0, 1) ∧ 39 + 1 = 40 := ⟨by decide +kernel, rfl⟩
theorem d_Ro_orderTo_40 : decode m_Ro_orderTo.2.1 40 = .ok (.getfield 19, 3) ∧ 40 + 3 = 43 := ⟨by decide +kernel, rfl⟩
theorem d_Ro_orderTo_43 : decode m_Ro_orderTo.2.1 43 = .ok (.lmul, 1) ∧ 43 + 1 = 44 := ⟨by decide +kernel, rfl⟩
theorem d_Ro_orderTo_44 : decode m_Ro_orderTo.2.1 44 = .ok (.aload_n 1, 1) ∧ 44 + 1 = 45 := ⟨by decide +kernel, rfl⟩
theorem d_Ro_orderTo_45 : decode m_Ro_orderTo.2.1 45 = .ok (.getfield 16, 3) ∧ 45 + 3 = 48 := ⟨by decide +kernel, rfl⟩
theorem d_Ro_orderTo_48 : decode m_Ro_orderTo.2.1 48 = .ok (.invokestatic 24, 3) ∧ 48 + 3 = 51 := ⟨by decide +kernel, rfl⟩
theorem d_Ro_orderTo_51 : decode m_Ro_orderTo.2.1 51 = .ok (.ireturn, 1) := by decide +kernel
theorem d_Ro_signOf_0 : decode m_Ro_signOf.2.1 0 = .ok (.lload_n 1, 1) ∧ 0 + 1 = 1 := ⟨by decide +kernel, rfl⟩
theorem d_Ro_signOf_1 : decode m_Ro_signOf.2.1 1 = .ok (.aload_n 0, 1) ∧ 1 + 1 = 2 := ⟨by decide +kernel, rfl⟩
theorem d_Ro_signOf_2 : decode m_Ro_signOf.2.1 2 = .ok (.getfield 7, 3) ∧ 2 + 3 = 5 := ⟨by decide +kernel, rfl⟩
theorem d_Ro_signOf_5 : decode m_Ro_signOf.2.1 5 = .ok (.aload_n 0, 1) ∧ 5 + 1 = 6 := ⟨by decide +kernel, rfl⟩
theorem d_Ro_signOf_6 : decode m_Ro_signOf.2.1 6 = .ok (.getfield 7, 3) ∧ 6 + 3 = 9 := ⟨by decide +kernel, rfl⟩
theorem d_Ro_signOf_9 : decode m_Ro_signOf.2.1 9 = .ok (.lmul, 1) ∧ 9 + 1 = 10 := ⟨by decide +kernel, rfl⟩
theorem d_Ro_signOf_10 : decode m_Ro_signOf.2.1 10 = .ok (.aload_n 0, 1) ∧ 10 + 1 = 11 := ⟨by decide +kernel, rfl⟩
theorem d_Ro_signOf_11 : decode m_Ro_signOf.2.1 11 = .ok (.getfield 13, 3) ∧ 11 + 3 = 14 := ⟨by decide +kernel, rfl⟩
theorem d_Ro_signOf_14 : decode m_Ro_signOf.2.1 14 = .ok (.aload_n 0, 1) ∧ 14 + 1 = 15 := ⟨by decide +kernel, rfl⟩
theorem d_Ro_signOf_15 : decode m_Ro_signOf.2.1 15 = .ok (.getfield 13, 3) ∧ 15 + 3 = 18 := ⟨by decide +kernel, rfl⟩
theorem d_Ro_signOf_18 : decode m_Ro_signOf.2.1 18 = .ok (.lmul, 1) ∧ 18 + 1 = 19 := ⟨by decide +kernel, rfl⟩
theorem d_Ro_signOf_19 : decode m_Ro_signOf.2.1 19 = .ok (.aload_n 0, 1) ∧ 19 + 1 = 20 := ⟨by decide +kernel, rfl⟩
theorem d_Ro_signOf_20 : decode m_Ro_signOf.2.1 20 = .ok (.getfield 16, 3) ∧ 20 + 3 = 23 := ⟨by decide +kernel, rfl⟩
theorem d_Ro_signOf_23 : decode m_Ro_signOf.2.1 23 = .ok (.lmul, 1) ∧ 23 + 1 = 24 := ⟨by decide +kernel, rfl⟩
theorem d_Ro_signOf_24 : decode m_Ro_signOf.2.1 24 = .ok (.ladd, 1) ∧ 24 + 1 = 25 := ⟨by decide +kernel, rfl⟩
theorem d_Ro_signOf_25 : decode m_Ro_signOf.2.1 25 = .ok (.lmul, 1) ∧ 25 + 1 = 26 := ⟨by decide +kernel, rfl⟩
theorem d_Ro_signOf_26 : decode m_Ro_signOf.2.1 26 = .ok (.lload_n 3, 1) ∧ 26 + 1 = 27 := ⟨by decide +kernel, rfl⟩
theorem d_Ro_signOf_27 : decode m_Ro_signOf.2.1 27 = .ok (.aload_n 0, 1) ∧ 27 + 1 = 28 := ⟨by decide +kernel, rfl⟩
theorem d_Ro_signOf_28 : decode m_Ro_signOf.2.1 28 = .ok (.getfield 7, 3) ∧ 28 + 3 = 31 := ⟨by decide +kernel, rfl⟩
theorem d_Ro_signOf_31 : decode m_Ro_signOf.2.1 31 = .ok (.lmul, 1) ∧ 31 + 1 = 32 := ⟨by decide +kernel, rfl⟩
theorem d_Ro_signOf_32 : decode m_Ro_signOf.2.1 32 = .ok (.lload 5, 2) ∧ 32 + 2 = 34 := ⟨by decide +kernel, rfl⟩
theorem d_Ro_signOf_34 : decode m_Ro_signOf.2.1 34 = .ok (.aload_n 0, 1) ∧ 34 + 1 = 35 := ⟨by decide +kernel, rfl⟩
theorem d_Ro_signOf_35 : decode m_Ro_signOf.2.1 35 = .ok (.getfield 19, 3) ∧ 35 + 3 = 38 := ⟨by decide +kernel, rfl⟩
theorem d_Ro_signOf_38 : decode m_Ro_signOf.2.1 38 = .ok (.lmul, 1) ∧ 38 + 1 = 39 := ⟨by decide +kernel, rfl⟩
theorem d_Ro_signOf_39 : decode m_Ro_signOf.2.1 39 = .ok (.ladd, 1) ∧ 39 + 1 = 40 := ⟨by decide +kernel, rfl⟩
theorem d_Ro_signOf_40 : decode m_Ro_signOf.2.1 40 = .ok (.aload_n 0, 1) ∧ 40 + 1 = 41 := ⟨by decide +kernel, rfl⟩
theorem d_Ro_signOf_41 : decode m_Ro_signOf.2.1 41 = .ok (.getfield 19, 3) ∧ 41 + 3 = 44 := ⟨by decide +kernel, rfl⟩
theorem d_Ro_signOf_44 : decode m_Ro_signOf.2.1 44 = .ok (.lmul, 1) ∧ 44 + 1 = 45 := ⟨by decide +kernel, rfl⟩
theorem d_Ro_signOf_45 : decode m_Ro_signOf.2.1 45 = .ok (.ladd, 1) ∧ 45 + 1 = 46 := ⟨by decide +kernel, rfl⟩
theorem d_Ro_signOf_46 : decode m_Ro_signOf.2.1 46 = .ok (.lstore 7, 2) ∧ 46 + 2 = 48 := ⟨by decide +kernel, rfl⟩
theorem d_Ro_signOf_48 : decode m_Ro_signOf.2.1 48 = .ok (.aload_n 0, 1) ∧ 48 + 1 = 49 := ⟨by decide +kernel, rfl⟩
theorem d_Ro_signOf_49 : decode m_Ro_signOf.2.1 49 = .ok (.getfield 13, 3) ∧ 49 + 3 = 52 := ⟨by decide +kernel, rfl⟩
theorem d_Ro_signOf_52 : decode m_Ro_signOf.2.1 52 = .ok (.ldc2_w 30, 3) ∧ 52 + 3 = 55 := ⟨by decide +kernel, rfl⟩
theorem d_Ro_signOf_55 : decode m_Ro_signOf.2.1 55 = .ok (.lload_n 1, 1) ∧ 55 + 1 = 56 := ⟨by decide +kernel, rfl⟩
theorem d_Ro_signOf_56 : decode m_Ro_signOf.2.1 56 = .ok (.lmul, 1) ∧ 56 + 1 = 57 := ⟨by decide +kernel, rfl⟩
theorem d_Ro_signOf_57 : decode m_Ro_signOf.2.1 57 = .ok (.aload_n 0, 1) ∧ 57 + 1 = 58 := ⟨by decide +kernel, rfl⟩
theorem d_Ro_signOf_58 : decode m_Ro_signOf.2.1 58 = .ok (.getfield 7, 3) ∧ 58 + 3 = 61 := ⟨by decide +kernel, rfl⟩
theorem d_Ro_signOf_61 : decode m_Ro_signOf.2.1 61 = .ok (.lmul, 1) ∧ 61 + 1 = 62 := ⟨by decide +kernel, rfl⟩
theorem d_Ro_signOf_62 : decode m_Ro_signOf.2.1 62 = .ok (.lload_n 3, 1) ∧ 62 + 1 = 63 := ⟨by decide +kernel, rfl⟩
theorem d_Ro_signOf_63 : decode m_Ro_signOf.2.1 63 = .ok (.aload_n 0, 1) ∧ 63 + 1 = 64 := ⟨by decide +kernel, rfl⟩
theorem d_Ro_signOf_64 : decode m_Ro_signOf.2.1 64 = .ok (.getfield 19, 3) ∧ 64 + 3 = 67 := ⟨by decide +kernel, rfl⟩
theorem d_Ro_signOf_67 : decode m_Ro_signOf.2.1 67 = .ok (.lmul, 1) ∧ 67 + 1 = 68 := ⟨by decide +kernel, rfl⟩
theorem d_Ro_signOf_68 : decode m_Ro_signOf.2.1 68 = .ok (.ladd, 1) ∧ 68 + 1 = 69 := ⟨by decide +kernel, rfl⟩
theorem d_Ro_signOf_69 : decode m_Ro_signOf.2.1 69 = .ok (.lmul, 1) ∧ 69 + 1 = 70 := ⟨by decide +kernel, rfl⟩
theorem d_Ro_signOf_70 : decode m_Ro_signOf.2.1 70 = .ok (.lstore 9, 2) ∧ 70 + 2 = 72 := ⟨by decide +kernel, rfl⟩
theorem d_Ro_signOf_72 : decode m_Ro_signOf.2.1 72 = .ok (.lload 7, 2) ∧ 72 + 2 = 74 := ⟨by decide +kernel, rfl⟩
theorem d_Ro_signOf_74 : decode m_Ro_signOf.2.1 74 = .ok (.lload 9, 2) ∧ 74 + 2 = 76 := ⟨by decide +kernel, rfl⟩
theorem d_Ro_signOf_76 : decode m_Ro_signOf.2.1 76 = .ok (.aload_n 0, 1) ∧ 76 + 1 = 77 := ⟨by decide +kernel, rfl⟩
theorem d_Ro_signOf_77 : decode m_Ro_signOf.2.1 77 = .ok (.getfield 16, 3) ∧ 77 + 3 = 80 := ⟨by decide +kernel, rfl⟩
theorem d_Ro_signOf_80 : decode m_Ro_signOf.2.1 80 = .ok (.invokestatic 32, 3) ∧ 80 + 3 = 83 := ⟨by decide +kernel, rfl⟩
theorem d_Ro_signOf_83 : decode m_Ro_signOf.2.1 83 = .ok (.ireturn, 1) := by decide +kernel
theorem d_Ro_thousandths_0 : decode m_Ro_thousandths.2.1 0 = .ok (.aload_n 0, 1) ∧ 0 + 1 = 1 := ⟨by decide +kernel, rfl⟩
theorem d_Ro_thousandths_1 : decode m_Ro_thousandths.2.1 1 = .ok (.getfield 19, 3) ∧ 1 + 3 = 4 := ⟨by decide +kernel, rfl⟩
theorem d_Ro_thousandths_4 : decode m_Ro_thousandths.2.1 4 = .ok (.lconst 1, 1) ∧ 4 + 1 = 5 := ⟨by decide +kernel, rfl⟩
theorem d_Ro_thousandths_5 : decode m_Ro_thousandths.2.1 5 = .ok (.lcmp, 1) ∧ 5 + 1 = 6 := ⟨by decide +kernel, rfl⟩
theorem d_Ro_thousandths_6 : decode m_Ro_thousandths.2.1 6 = .ok (.ifCond .ge 5, 3) ∧ 6 + 3 = 9 ∧ (((6 : Nat) : Int) + (5) = ((11 : Nat) : Int)) := ⟨by decide +kernel, rfl, by decide⟩
theorem d_Ro_thousandths_9 : decode m_Ro_thousandths.2.1 9 = .ok (.iconst 0, 1) ∧ 9 + 1 = 10 := ⟨by decide +kernel, rfl⟩
theorem d_Ro_thousandths_10 : decode m_Ro_thousandths.2.1 10 = .ok (.ireturn, 1) := by decide +kernel
theorem d_Ro_thousandths_11 : decode m_Ro_thousandths.2.1 11 = .ok (.ldc2_w 35, 3) ∧ 11 + 3 = 14 := ⟨by decide +kernel, rfl⟩
theorem d_Ro_thousandths_14 : decode m_Ro_thousandths.2.1 14 = .ok (.aload_n 0, 1) ∧ 14 + 1 = 15 := ⟨by decide +kernel, rfl⟩
theorem d_Ro_thousandths_15 : decode m_Ro_thousandths.2.1 15 = .ok (.getfield 16, 3) ∧ 15 + 3 = 18 := ⟨by decide +kernel, rfl⟩
theorem d_Ro_thousandths_18 : decode m_Ro_thousandths.2.1 18 = .ok (.lmul, 1) ∧ 18 + 1 = 19 := ⟨by decide +kernel, rfl⟩
theorem d_Ro_thousandths_19 : decode m_Ro_thousandths.2.1 19 = .ok (.invokestatic 37, 3) ∧ 19 + 3 = 22 := ⟨by decide +kernel, rfl⟩
theorem d_Ro_thousandths_22 : decode m_Ro_thousandths.2.1 22 = .ok (.lstore_n 1, 1) ∧ 22 + 1 = 23 := ⟨by decide +kernel, rfl⟩
theorem d_Ro_thousandths_23 : decode m_Ro_thousandths.2.1 23 = .ok (.aload_n 0, 1) ∧ 23 + 1 = 24 := ⟨by decide +kernel, rfl⟩
theorem d_Ro_thousandths_24 : decode m_Ro_thousandths.2.1 24 = .ok (.getfield 13, 3) ∧ 24 + 3 = 27 := ⟨by decide +kernel, rfl⟩
theorem d_Ro_thousandths_27 : decode m_Ro_thousandths.2.1 27 = .ok (.lconst 0, 1) ∧ 27 + 1 = 28 := ⟨by decide +kernel, rfl⟩
theorem d_Ro_thousandths_28 : decode m_Ro_thousandths.2.1 28 = .ok (.lcmp, 1) ∧ 28 + 1 = 29 := ⟨by decide +kernel, rfl⟩
theorem d_Ro_thousandths_29 : decode m_Ro_thousandths.2.1 29 = .ok (.ifCond .le 7, 3) ∧ 29 + 3 = 32 ∧ (((29 : Nat) : Int) + (7) = ((36 : Nat) : Int)) := ⟨by decide +kernel, rfl, by decide⟩
theorem d_Ro_thousandths_32 : decode m_Ro_thousandths.2.1 32 = .ok (.lload_n 1, 1) ∧ 32 + 1 = 33 := ⟨by decide +kernel, rfl⟩
theorem d_Ro_thousandths_33 : decode m_Ro_thousandths.2.1 33 = .ok (.goto 20, 3) ∧ (((33 : Nat) : Int) + (20) = ((53 : Nat) : Int)) := ⟨by decide +kernel, by decide⟩
theorem d_Ro_thousandths_36 : decode m_Ro_thousandths.2.1 36 = .ok (.aload_n 0, 1) ∧ 36 + 1 = 37 := ⟨by decide +kernel, rfl⟩
theorem d_Ro_thousandths_37 : decode m_Ro_thousandths.2.1 37 = .ok (.getfield 13, 3) ∧ 37 + 3 = 40 := ⟨by decide +kernel, rfl⟩
theorem d_Ro_thousandths_40 : decode m_Ro_thousandths.2.1 40 = .ok (.lconst 0, 1) ∧ 40 + 1 = 41 := ⟨by decide +kernel, rfl⟩
theorem d_Ro_thousandths_41 : decode m_Ro_thousandths.2.1 41 = .ok (.lcmp, 1) ∧ 41 + 1 = 42 := ⟨by decide +kernel, rfl⟩
theorem d_Ro_thousandths_42 : decode m_Ro_thousandths.2.1 42 = .ok (.ifCond .ge 10, 3) ∧ 42 + 3 = 45 ∧ (((42 : Nat) : Int) + (10) = ((52 : Nat) : Int)) := ⟨by decide +kernel, rfl, by decide⟩
theorem d_Ro_thousandths_45 : decode m_Ro_thousandths.2.1 45 = .ok (.lload_n 1, 1) ∧ 45 + 1 = 46 := ⟨by decide +kernel, rfl⟩
theorem d_Ro_thousandths_46 : decode m_Ro_thousandths.2.1 46 = .ok (.lneg, 1) ∧ 46 + 1 = 47 := ⟨by decide +kernel, rfl⟩
theorem d_Ro_thousandths_47 : decode m_Ro_thousandths.2.1 47 = .ok (.lconst 1, 1) ∧ 47 + 1 = 48 := ⟨by decide +kernel, rfl⟩
theorem d_Ro_thousandths_48 : decode m_Ro_thousandths.2.1 48 = .ok (.lsub, 1) ∧ 48 + 1 = 49 := ⟨by decide +kernel, rfl⟩
theorem d_Ro_thousandths_49 : decode m_Ro_thousandths.2.1 49 = .ok (.goto 4, 3) ∧ (((49 : Nat) : Int) + (4) = ((53 : Nat) : Int)) := ⟨by decide +kernel, by decide⟩
theorem d_Ro_thousandths_52 : decode m_Ro_thousandths.2.1 52 = .ok (.lconst 0, 1) ∧ 52 + 1 = 53 := ⟨by decide +kernel, rfl⟩
theorem d_Ro_thousandths_53 : decode m_Ro_thousandths.2.1 53 = .ok (.lstore_n 3, 1) ∧ 53 + 1 = 54 := ⟨by decide +kernel, rfl⟩
theorem d_Ro_thousandths_54 : decode m_Ro_thousandths.2.1 54 = .ok (.ldc2_w 41, 3) ∧ 54 + 3 = 57 := ⟨by decide +kernel, rfl⟩
theorem d_Ro_thousandths_57 : decode m_Ro_thousandths.2.1 57 = .ok (.aload_n 0, 1) ∧ 57 + 1 = 58 := ⟨by decide +kernel, rfl⟩
theorem d_Ro_thousandths_58 : decode m_Ro_thousandths.2.1 58 = .ok (.getfield 7, 3) ∧ 58 + 3 = 61 := ⟨by decide +kernel, rfl⟩
theorem d_Ro_thousandths_61 : decode m_Ro_thousandths.2.1 61 = .ok (.lmul, 1) ∧ 61 + 1 = 62 := ⟨by decide +kernel, rfl⟩
theorem d_Ro_thousandths_62 : decode m_Ro_thousandths.2.1 62 = .ok (.lload_n 3, 1) ∧ 62 + 1 = 63 := ⟨by decide +kernel, rfl⟩
theorem d_Ro_thousandths_63 : decode m_Ro_thousandths.2.1 63 = .ok (.ladd, 1) ∧ 63 + 1 = 64 := ⟨by decide +kernel, rfl⟩
theorem d_Ro_thousandths_64 : decode m_Ro_thousandths.2.1 64 = .ok (.aload_n 0, 1) ∧ 64 + 1 = 65 := ⟨by decide +kernel, rfl⟩
theorem d_Ro_thousandths_65 : decode m_Ro_thousandths.2.1 65 = .ok (.getfield 19, 3) ∧ 65 + 3 = 68 := ⟨by decide +kernel, rfl⟩
theorem d_Ro_thousandths_68 : decode m_Ro_thousandths.2.1 68 = .ok (.invokestatic 43, 3) ∧ 68 + 3 = 71 := ⟨by decide +kernel, rfl⟩
theorem d_Ro_thousandths_71 : decode m_Ro_thousandths.2.1 71 = .ok (.l2i, 1) ∧ 71 + 1 = 72 := ⟨by decide +kernel, rfl⟩
theorem d_Ro_thousandths_72 : decode m_Ro_thousandths.2.1 72 = .ok (.ireturn, 1) := by decide +kernel
theorem d_Rw_init_0 : decode m_Rw_init.2.1 0 = .ok (.aload_n 0, 1) ∧ 0 + 1 = 1 := ⟨by decide +kernel, rfl⟩
theorem d_Rw_init_1 : decode m_Rw_init.2.1 1 = .ok (.invokespecial 3, 3) ∧ 1 + 3 = 4 := ⟨by decide +kernel, rfl⟩
theorem d_Rw_init_4 : decode m_Rw_init.2.1 4 = .ok (.aload_n 0, 1) ∧ 4 + 1 = 5 := ⟨by decide +kernel, rfl⟩
theorem d_Rw_init_5 : decode m_Rw_init.2.1 5 = .ok (.iconst 4, 1) ∧ 5 + 1 = 6 := ⟨by decide +kernel, rfl⟩
theorem d_Rw_init_6 : decode m_Rw_init.2.1 6 = .ok (.anewarray 9, 3) ∧ 6 + 3 = 9 := ⟨by decide +kernel, rfl⟩
theorem d_Rw_init_9 : decode m_Rw_init.2.1 9 = .ok (.putfield 11, 3) ∧ 9 + 3 = 12 := ⟨by decide +kernel, rfl⟩
theorem d_Rw_init_12 : decode m_Rw_init.2.1 12 = .ok (.aload_n 0, 1) ∧ 12 + 1 = 13 := ⟨by decide +kernel, rfl⟩
theorem d_Rw_init_13 : decode m_Rw_init.2.1 13 = .ok (.iconst 0, 1) ∧ 13 + 1 = 14 := ⟨by decide +kernel, rfl⟩
theorem d_Rw_init_14 : decode m_Rw_init.2.1 14 = .ok (.putfield 17, 3) ∧ 14 + 3 = 17 := ⟨by decide +kernel, rfl⟩
theorem d_Rw_init_17 : decode m_Rw_init.2.1 17 = .ok (.iconst 0, 1) ∧ 17 + 1 = 18 := ⟨by decide +kernel, rfl⟩
theorem d_Rw_init_18 : decode m_Rw_init.2.1 18 = .ok (.istore_n 1, 1) ∧ 18 + 1 = 19 := ⟨by decide +kernel, rfl⟩
theorem d_Rw_init_19 : decode m_Rw_init.2.1 19 = .ok (.iload_n 1, 1) ∧ 19 + 1 = 20 := ⟨by decide +kernel, rfl⟩
theorem d_Rw_init_20 : decode m_Rw_init.2.1 20 = .ok (.iconst 4, 1) ∧ 20 + 1 = 21 := ⟨by decide +kernel, rfl⟩
theorem d_Rw_init_21 : decode m_Rw_init.2.1 21 = .ok (.if_icmp .ge 22, 3) ∧ 21 + 3 = 24 ∧ (((21 : Nat) : Int) + (22) = ((43 : Nat) : Int)) := ⟨by decide +kernel, rfl, by decide⟩
theorem d_Rw_init_24 : decode m_Rw_init.2.1 24 = .ok (.aload_n 0, 1) ∧ 24 + 1 = 25 := ⟨by decide +kernel, rfl⟩
theorem d_Rw_init_25 : decode m_Rw_init.2.1 25 = .ok (.getfield 11, 3) ∧ 25 + 3 = 28 := ⟨by decide +kernel, rfl⟩
theorem d_Rw_init_28 : decode m_Rw_init.2.1 28 = .ok (.iload_n 1, 1) ∧ 28 + 1 = 29 := ⟨by decide +kernel, rfl⟩
theorem d_Rw_init_29 : decode m_Rw_init.2.1 29 = .ok (.new 9, 3) ∧ 29 + 3 = 32 := ⟨by decide +kernel, rfl⟩
theorem d_Rw_init_32 : decode m_Rw_init.2.1 32 = .ok (.dup, 1) ∧ 32 + 1 = 33 := ⟨by decide +kernel, rfl⟩
theorem d_Rw_init_33 : decode m_Rw_init.2.1 33 = .ok (.invokespecial 21, 3) ∧ 33 + 3 = 36 := ⟨by decide +kernel, rfl⟩
theorem d_Rw_init_36 : decode m_Rw_init.2.1 36 = .ok (.aastore, 1) ∧ 36 + 1 = 37 := ⟨by decide +kernel, rfl⟩
theorem d_Rw_init_37 : decode m_Rw_init.2.1 37 = .ok (.iinc 1 1, 3) ∧ 37 + 3 = 40 := ⟨by decide +kernel, rfl⟩
theorem d_Rw_init_40 : decode m_Rw_init.2.1 40 = .ok (.goto (-21), 3) ∧ (((40 : Nat) : Int) + (-21) = ((19 : Nat) : Int)) := ⟨by decide +kernel, by decide⟩
theorem d_Rw_init_43 : decode m_Rw_init.2.1 43 = .ok (.return_, 1) := by decide +kernel
theorem d_Rw_has_0 : decode m_Rw_has.2.1 0 = .ok (.iload_n 1, 1) ∧ 0 + 1 = 1 := ⟨by decide +kernel, rfl⟩
theorem d_Rw_has_1 : decode m_Rw_has.2.1 1 = .ok (.ifCond .lt 15, 3) ∧ 1 + 3 = 4 ∧ (((1 : Nat) : Int) + (15) = ((16 : Nat) : Int)) := ⟨by decide +kernel, rfl, by decide⟩
theorem d_Rw_has_4 : decode m_Rw_has.2.1 4 = .ok (.iload_n 1, 1) ∧ 4 + 1 = 5 := ⟨by decide +kernel, rfl⟩
theorem d_Rw_has_5 : decode m_Rw_has.2.1 5 = .ok (.aload_n 0, 1) ∧ 5 + 1 = 6 := ⟨by decide +kernel, rfl⟩
theorem d_Rw_has_6 : decode m_Rw_has.2.1 6 = .ok (.getfield 17, 3) ∧ 6 + 3 = 9 := ⟨by decide +kernel, rfl⟩
theorem d_Rw_has_9 : decode m_Rw_has.2.1 9 = .ok (.if_icmp .ge 7, 3) ∧ 9 + 3 = 12 ∧ (((9 : Nat) : Int) + (7) = ((16 : Nat) : Int)) := ⟨by decide +kernel, rfl, by decide⟩
theorem d_Rw_has_12 : decode m_Rw_has.2.1 12 = .ok (.iconst 1, 1) ∧ 12 + 1 = 13 := ⟨by decide +kernel, rfl⟩
theorem d_Rw_has_13 : decode m_Rw_has.2.1 13 = .ok (.goto 4, 3) ∧ (((13 : Nat) : Int) + (4) = ((17 : Nat) : Int)) := ⟨by decide +kernel, by decide⟩
theorem d_Rw_has_16 : decode m_Rw_has.2.1 16 = .ok (.iconst 0, 1) ∧ 16 + 1 = 17 := ⟨by decide +kernel, rfl⟩
theorem d_Rw_has_17 : decode m_Rw_has.2.1 17 = .ok (.ireturn, 1) := by decide +kernel
theorem d_Rw_append_0 : decode m_Rw_append.2.1 0 = .ok (.aload_n 0, 1) ∧ 0 + 1 = 1 := ⟨by decide +kernel, rfl⟩
theorem d_Rw_append_1 : decode m_Rw_append.2.1 1 = .ok (.getfield 17, 3) ∧ 1 + 3 = 4 := ⟨by decide +kernel, rfl⟩
theorem d_Rw_append_4 : decode m_Rw_append.2.1 4 = .ok (.iconst 4, 1) ∧ 4 + 1 = 5 := ⟨by decide +kernel, rfl⟩
theorem d_Rw_append_5 : decode m_Rw_append.2.1 5 = .ok (.if_icmp .lt 5, 3) ∧ 5 + 3 = 8 ∧ (((5 : Nat) : Int) + (5) = ((10 : Nat) : Int)) := ⟨by decide +kernel, rfl, by decide⟩
theorem d_Rw_append_8 : decode m_Rw_append.2.1 8 = .ok (.iconst 0, 1) ∧ 8 + 1 = 9 := ⟨by decide +kernel, rfl⟩
theorem d_Rw_append_9 : decode m_Rw_append.2.1 9 = .ok (.ireturn, 1) := by decide +kernel
theorem d_Rw_append_10 : decode m_Rw_append.2.1 10 = .ok (.aload_n 0, 1) ∧ 10 + 1 = 11 := ⟨by decide +kernel, rfl⟩
theorem d_Rw_append_11 : decode m_Rw_append.2.1 11 = .ok (.getfield 11, 3) ∧ 11 + 3 = 14 := ⟨by decide +kernel, rfl⟩
theorem d_Rw_append_14 : decode m_Rw_append.2.1 14 = .ok (.aload_n 0, 1) ∧ 14 + 1 = 15 := ⟨by decide +kernel, rfl⟩
theorem d_Rw_append_15 : decode m_Rw_append.2.1 15 = .ok (.getfield 17, 3) ∧ 15 + 3 = 18 := ⟨by decide +kernel, rfl⟩
theorem d_Rw_append_18 : decode m_Rw_append.2.1 18 = .ok (.aaload, 1) ∧ 18 + 1 = 19 := ⟨by decide +kernel, rfl⟩
theorem d_Rw_append_19 : decode m_Rw_append.2.1 19 = .ok (.iload_n 1, 1) ∧ 19 + 1 = 20 := ⟨by decide +kernel, rfl⟩
theorem d_Rw_append_20 : decode m_Rw_append.2.1 20 = .ok (.iload_n 2, 1) ∧ 20 + 1 = 21 := ⟨by decide +kernel, rfl⟩
theorem d_Rw_append_21 : decode m_Rw_append.2.1 21 = .ok (.iload_n 3, 1) ∧ 21 + 1 = 22 := ⟨by decide +kernel, rfl⟩
theorem d_Rw_append_22 : decode m_Rw_append.2.1 22 = .ok (.iload 4, 2) ∧ 22 + 2 = 24 := ⟨by decide +kernel, rfl⟩
theorem d_Rw_append_24 : decode m_Rw_append.2.1 24 = .ok (.invokevirtual 22, 3) ∧ 24 + 3 = 27 := ⟨by decide +kernel, rfl⟩
theorem d_Rw_append_27 : decode m_Rw_append.2.1 27 = .ok (.aload_n 0, 1) ∧ 27 + 1 = 28 := ⟨by decide +kernel, rfl⟩
theorem d_Rw_append_28 : decode m_Rw_append.2.1 28 = .ok (.dup, 1) ∧ 28 + 1 = 29 := ⟨by decide +kernel, rfl⟩
theorem d_Rw_append_29 : decode m_Rw_append.2.1 29 = .ok (.getfield 17, 3) ∧ 29 + 3 = 32 := ⟨by decide +kernel, rfl⟩
theorem d_Rw_append_32 : decode m_Rw_append.2.1 32 = .ok (.iconst 1, 1) ∧ 32 + 1 = 33 := ⟨by decide +kernel, rfl⟩
theorem d_Rw_append_33 : decode m_Rw_append.2.1 33 = .ok (.iadd, 1) ∧ 33 + 1 = 34 := ⟨by decide +kernel, rfl⟩
theorem d_Rw_append_34 : decode m_Rw_append.2.1 34 = .ok (.putfield 17, 3) ∧ 34 + 3 = 37 := ⟨by decide +kernel, rfl⟩
theorem d_Rw_append_37 : decode m_Rw_append.2.1 37 = .ok (.iconst 1, 1) ∧ 37 + 1 = 38 := ⟨by decide +kernel, rfl⟩
theorem d_Rw_append_38 : decode m_Rw_append.2.1 38 = .ok (.ireturn, 1) := by decide +kernel
theorem d_Rw_remove_0 : decode m_Rw_remove.2.1 0 = .ok (.aload_n 0, 1) ∧ 0 + 1 = 1 := ⟨by decide +kernel, rfl⟩
theorem d_Rw_remove_1 : decode m_Rw_remove.2.1 1 = .ok (.iload_n 1, 1) ∧ 1 + 1 = 2 := ⟨by decide +kernel, rfl⟩
theorem d_Rw_remove_2 : decode m_Rw_remove.2.1 2 = .ok (.invokevirtual 26, 3) ∧ 2 + 3 = 5 := ⟨by decide +kernel, rfl⟩
theorem d_Rw_remove_5 : decode m_Rw_remove.2.1 5 = .ok (.ifCond .ne 4, 3) ∧ 5 + 3 = 8 ∧ (((5 : Nat) : Int) + (4) = ((9 : Nat) : Int)) := ⟨by decide +kernel, rfl, by decide⟩
theorem d_Rw_remove_8 : decode m_Rw_remove.2.1 8 = .ok (.return_, 1) := by decide +kernel
theorem d_Rw_remove_9 : decode m_Rw_remove.2.1 9 = .ok (.iload_n 1, 1) ∧ 9 + 1 = 10 := ⟨by decide +kernel, rfl⟩
theorem d_Rw_remove_10 : decode m_Rw_remove.2.1 10 = .ok (.istore_n 2, 1) ∧ 10 + 1 = 11 := ⟨by decide +kernel, rfl⟩
theorem d_Rw_remove_11 : decode m_Rw_remove.2.1 11 = .ok (.iload_n 2, 1) ∧ 11 + 1 = 12 := ⟨by decide +kernel, rfl⟩
theorem d_Rw_remove_12 : decode m_Rw_remove.2.1 12 = .ok (.aload_n 0, 1) ∧ 12 + 1 = 13 := ⟨by decide +kernel, rfl⟩
theorem d_Rw_remove_13 : decode m_Rw_remove.2.1 13 = .ok (.getfield 17, 3) ∧ 13 + 3 = 16 := ⟨by decide +kernel, rfl⟩
theorem d_Rw_remove_16 : decode m_Rw_remove.2.1 16 = .ok (.iconst 1, 1) ∧ 16 + 1 = 17 := ⟨by decide +kernel, rfl⟩
theorem d_Rw_remove_17 : decode m_Rw_remove.2.1 17 = .ok (.isub, 1) ∧ 17 + 1 = 18 := ⟨by decide +kernel, rfl⟩
theorem d_Rw_remove_18 : decode m_Rw_remove.2.1 18 = .ok (.if_icmp .ge 43, 3) ∧ 18 + 3 = 21 ∧ (((18 : Nat) : Int) + (43) = ((61 : Nat) : Int)) := ⟨by decide +kernel, rfl, by decide⟩
theorem d_Rw_remove_21 : decode m_Rw_remove.2.1 21 = .ok (.aload_n 0, 1) ∧ 21 + 1 = 22 := ⟨by decide +kernel, rfl⟩
theorem d_Rw_remove_22 : decode m_Rw_remove.2.1 22 = .ok (.getfield 11, 3) ∧ 22 + 3 = 25 := ⟨by decide +kernel, rfl⟩
theorem d_Rw_remove_25 : decode m_Rw_remove.2.1 25 = .ok (.iload_n 2, 1) ∧ 25 + 1 = 26 := ⟨by decide +kernel, rfl⟩
theorem d_Rw_remove_26 : decode m_Rw_remove.2.1 26 = .ok (.iconst 1, 1) ∧ 26 + 1 = 27 := ⟨by decide +kernel, rfl⟩
theorem d_Rw_remove_27 : decode m_Rw_remove.2.1 27 = .ok (.iadd, 1) ∧ 27 + 1 = 28 := ⟨by decide +kernel, rfl⟩
theorem d_Rw_remove_28 : decode m_Rw_remove.2.1 28 = .ok (.aaload, 1) ∧ 28 + 1 = 29 := ⟨by decide +kernel, rfl⟩
theorem d_Rw_remove_29 : decode m_Rw_remove.2.1 29 = .ok (.astore_n 3, 1) ∧ 29 + 1 = 30 := ⟨by decide +kernel, rfl⟩
theorem d_Rw_remove_30 : decode m_Rw_remove.2.1 30 = .ok (.aload_n 0, 1) ∧ 30 + 1 = 31 := ⟨by decide +kernel, rfl⟩
theorem d_Rw_remove_31 : decode m_Rw_remove.2.1 31 = .ok (.getfield 11, 3) ∧ 31 + 3 = 34 := ⟨by decide +kernel, rfl⟩
theorem d_Rw_remove_34 : decode m_Rw_remove.2.1 34 = .ok (.iload_n 2, 1) ∧ 34 + 1 = 35 := ⟨by decide +kernel, rfl⟩
theorem d_Rw_remove_35 : decode m_Rw_remove.2.1 35 = .ok (.aaload, 1) ∧ 35 + 1 = 36 := ⟨by decide +kernel, rfl⟩
theorem d_Rw_remove_36 : decode m_Rw_remove.2.1 36 = .ok (.aload_n 3, 1) ∧ 36 + 1 = 37 := ⟨by decide +kernel, rfl⟩
theorem d_Rw_remove_37 : decode m_Rw_remove.2.1 37 = .ok (.getfield 30, 3) ∧ 37 + 3 = 40 := ⟨by decide +kernel, rfl⟩
theorem d_Rw_remove_40 : decode m_Rw_remove.2.1 40 = .ok (.aload_n 3, 1) ∧ 40 + 1 = 41 := ⟨by decide +kernel, rfl⟩
theorem d_Rw_remove_41 : decode m_Rw_remove.2.1 41 = .ok (.getfield 33, 3) ∧ 41 + 3 = 44 := ⟨by decide +kernel, rfl⟩
theorem d_Rw_remove_44 : decode m_Rw_remove.2.1 44 = .ok (.aload_n 3, 1) ∧ 44 + 1 = 45 := ⟨by decide +kernel, rfl⟩
theorem d_Rw_remove_45 : decode m_Rw_remove.2.1 45 = .ok (.getfield 36, 3) ∧ 45 + 3 = 48 := ⟨by decide +kernel, rfl⟩
theorem d_Rw_remove_48 : decode m_Rw_remove.2.1 48 = .ok (.aload_n 3, 1) ∧ 48 + 1 = 49 := ⟨by decide +kernel, rfl⟩
theorem d_Rw_remove_49 : decode m_Rw_remove.2.1 49 = .ok (.getfield 39, 3) ∧ 49 + 3 = 52 := ⟨by decide +kernel, rfl⟩
theorem d_Rw_remove_52 : decode m_Rw_remove.2.1 52 = .ok (.invokevirtual 22, 3) ∧ 52 + 3 = 55 := ⟨by decide +kernel, rfl⟩
theorem d_Rw_remove_55 : decode m_Rw_remove.2.1 55 = .ok (.iinc 2 1, 3) ∧ 55 + 3 = 58 := ⟨by decide +kernel, rfl⟩
theorem d_Rw_remove_58 : decode m_Rw_remove.2.1 58 = .ok (.goto (-47), 3) ∧ (((58 : Nat) : Int) + (-47) = ((11 : Nat) : Int)) := ⟨by decide +kernel, by decide⟩
theorem d_Rw_remove_61 : decode m_Rw_remove.2.1 61 = .ok (.aload_n 0, 1) ∧ 61 + 1 = 62 := ⟨by decide +kernel, rfl⟩
theorem d_Rw_remove_62 : decode m_Rw_remove.2.1 62 = .ok (.dup, 1) ∧ 62 + 1 = 63 := ⟨by decide +kernel, rfl⟩
theorem d_Rw_remove_63 : decode m_Rw_remove.2.1 63 = .ok (.getfield 17, 3) ∧ 63 + 3 = 66 := ⟨by decide +kernel, rfl⟩
theorem d_Rw_remove_66 : decode m_Rw_remove.2.1 66 = .ok (.iconst 1, 1) ∧ 66 + 1 = 67 := ⟨by decide +kernel, rfl⟩
theorem d_Rw_remove_67 : decode m_Rw_remove.2.1 67 = .ok (.isub, 1) ∧ 67 + 1 = 68 := ⟨by decide +kernel, rfl⟩
theorem d_Rw_remove_68 : decode m_Rw_remove.2.1 68 = .ok (.putfield 17, 3) ∧ 68 + 3 = 71 := ⟨by decide +kernel, rfl⟩
theorem d_Rw_remove_71 : decode m_Rw_remove.2.1 71 = .ok (.return_, 1) := by decide +kernel
theorem d_Rw_copy_0 : decode m_Rw_copy.2.1 0 = .ok (.iconst 0, 1) ∧ 0 + 1 = 1 := ⟨by decide +kernel, rfl⟩
theorem d_Rw_copy_1 : decode m_Rw_copy.2.1 1 = .ok (.istore_n 2, 1) ∧ 1 + 1 = 2 := ⟨by decide +kernel, rfl⟩
theorem d_Rw_copy_2 : decode m_Rw_copy.2.1 2 = .ok (.iload_n 2, 1) ∧ 2 + 1 = 3 := ⟨by decide +kernel, rfl⟩
theorem d_Rw_copy_3 : decode m_Rw_copy.2.1 3 = .ok (.aload_n 1, 1) ∧ 3 + 1 = 4 := ⟨by decide +kernel, rfl⟩
theorem d_Rw_copy_4 : decode m_Rw_copy.2.1 4 = .ok (.getfield 17, 3) ∧ 4 + 3 = 7 := ⟨by decide +kernel, rfl⟩
theorem d_Rw_copy_7 : decode m_Rw_copy.2.1 7 = .ok (.if_icmp .ge 41, 3) ∧ 7 + 3 = 10 ∧ (((7 : Nat) : Int) + (41) = ((48 : Nat) : Int)) := ⟨by decide +kernel, rfl, by decide⟩
theorem d_Rw_copy_10 : decode m_Rw_copy.2.1 10 = .ok (.aload_n 1, 1) ∧ 10 + 1 = 11 := ⟨by decide +kernel, rfl⟩
theorem d_Rw_copy_11 : decode m_Rw_copy.2.1 11 = .ok (.getfield 11, 3) ∧ 11 + 3 = 14 := ⟨by decide +kernel, rfl⟩
theorem d_Rw_copy_14 : decode m_Rw_copy.2.1 14 = .ok (.iload_n 2, 1) ∧ 14 + 1 = 15 := ⟨by decide +kernel, rfl⟩
theorem d_Rw_copy_15 : decode m_Rw_copy.2.1 15 = .ok (.aaload, 1) ∧ 15 + 1 = 16 := ⟨by decide +kernel, rfl⟩
theorem d_Rw_copy_16 : decode m_Rw_copy.2.1 16 = .ok (.astore_n 3, 1) ∧ 16 + 1 = 17 := ⟨by decide +kernel, rfl⟩
theorem d_Rw_copy_17 : decode m_Rw_copy.2.1 17 = .ok (.aload_n 0, 1) ∧ 17 + 1 = 18 := ⟨by decide +kernel, rfl⟩
theorem d_Rw_copy_18 : decode m_Rw_copy.2.1 18 = .ok (.getfield 11, 3) ∧ 18 + 3 = 21 := ⟨by decide +kernel, rfl⟩
theorem d_Rw_copy_21 : decode m_Rw_copy.2.1 21 = .ok (.iload_n 2, 1) ∧ 21 + 1 = 22 := ⟨by decide +kernel, rfl⟩
theorem d_Rw_copy_22 : decode m_Rw_copy.2.1 22 = .ok (.aaload, 1) ∧ 22 + 1 = 23 := ⟨by decide +kernel, rfl⟩
theorem d_Rw_copy_23 : decode m_Rw_copy.2.1 23 = .ok (.aload_n 3, 1) ∧ 23 + 1 = 24 := ⟨by decide +kernel, rfl⟩
theorem d_Rw_copy_24 : decode m_Rw_copy.2.1 24 = .ok (.getfield 30, 3) ∧ 24 + 3 = 27 := ⟨by decide +kernel, rfl⟩
theorem d_Rw_copy_27 : decode m_Rw_copy.2.1 27 = .ok (.aload_n 3, 1) ∧ 27 + 1 = 28 := ⟨by decide +kernel, rfl⟩
theorem d_Rw_copy_28 : decode m_Rw_copy.2.1 28 = .ok (.getfield 33, 3) ∧ 28 + 3 = 31 := ⟨by decide +kernel, rfl⟩
theorem d_Rw_copy_31 : decode m_Rw_copy.2.1 31 = .ok (.aload_n 3, 1) ∧ 31 + 1 = 32 := ⟨by decide +kernel, rfl⟩
theorem d_Rw_copy_32 : decode m_Rw_copy.2.1 32 = .ok (.getfield 36, 3) ∧ 32 + 3 = 35 := ⟨by decide +kernel, rfl⟩
theorem d_Rw_copy_35 : decode m_Rw_copy.2.1 35 = .ok (.aload_n 3, 1) ∧ 35 + 1 = 36 := ⟨by decide +kernel, rfl⟩
theorem d_Rw_copy_36 : decode m_Rw_copy.2.1 36 = .ok (.getfield 39, 3) ∧ 36 + 3 = 39 := ⟨by decide +kernel, rfl⟩
theorem d_Rw_copy_39 : decode m_Rw_copy.2.1 39 = .ok (.invokevirtual 22, 3) ∧ 39 + 3 = 42 := ⟨by decide +kernel, rfl⟩
theorem d_Rw_copy_42 : decode m_Rw_copy.2.1 42 = .ok (.iinc 2 1, 3) ∧ 42 + 3 = 45 := ⟨by decide +kernel, rfl⟩
theorem d_Rw_copy_45 : decode m_Rw_copy.2.1 45 = .ok (.goto (-43), 3) ∧ (((45 : Nat) : Int) + (-43) = ((2 : Nat) : Int)) := ⟨by decide +kernel, by decide⟩
theorem d_Rw_copy_48 : decode m_Rw_copy.2.1 48 = .ok (.aload_n 0, 1) ∧ 48 + 1 = 49 := ⟨by decide +kernel, rfl⟩
theorem d_Rw_copy_49 : decode m_Rw_copy.2.1 49 = .ok (.aload_n 1, 1) ∧ 49 + 1 = 50 := ⟨by decide +kernel, rfl⟩
theorem d_Rw_copy_50 : decode m_Rw_copy.2.1 50 = .ok (.getfield 17, 3) ∧ 50 + 3 = 53 := ⟨by decide +kernel, rfl⟩
theorem d_Rw_copy_53 : decode m_Rw_copy.2.1 53 = .ok (.putfield 17, 3) ∧ 53 + 3 = 56 := ⟨by decide +kernel, rfl⟩
theorem d_Rw_copy_56 : decode m_Rw_copy.2.1 56 = .ok (.return_, 1) := by decide +kernel
theorem d_Se_init_0 : decode m_Se_init.2.1 0 = .ok (.aload_n 0, 1) ∧ 0 + 1 = 1 := ⟨by decide +kernel, rfl⟩
theorem d_Se_init_1 : decode m_Se_init.2.1 1 = .ok (.invokespecial 3, 3) ∧ 1 + 3 = 4 := ⟨by decide +kernel, rfl⟩
theorem d_Se_init_4 : decode m_Se_init.2.1 4 = .ok (.aload_n 0, 1) ∧ 4 + 1 = 5 := ⟨by decide +kernel, rfl⟩
theorem d_Se_init_5 : decode m_Se_init.2.1 5 = .ok (.bipush 6, 2) ∧ 5 + 2 = 7 ∧ (Int8.ofInt 6).toInt32 = Int32.ofInt 6 := ⟨by decide +kernel, rfl, by decide +kernel⟩
theorem d_Se_init_7 : decode m_Se_init.2.1 7 = .ok (.newarray .int, 2) ∧ 7 + 2 = 9 := ⟨by decide +kernel, rfl⟩
theorem d_Se_init_9 : decode m_Se_init.2.1 9 = .ok (.putfield 9, 3) ∧ 9 + 3 = 12 := ⟨by decide +kernel, rfl⟩
theorem d_Se_init_12 : decode m_Se_init.2.1 12 = .ok (.aload_n 0, 1) ∧ 12 + 1 = 13 := ⟨by decide +kernel, rfl⟩
theorem d_Se_init_13 : decode m_Se_init.2.1 13 = .ok (.bipush 6, 2) ∧ 13 + 2 = 15 ∧ (Int8.ofInt 6).toInt32 = Int32.ofInt 6 := ⟨by decide +kernel, rfl, by decide +kernel⟩
theorem d_Se_init_15 : decode m_Se_init.2.1 15 = .ok (.newarray .int, 2) ∧ 15 + 2 = 17 := ⟨by decide +kernel, rfl⟩
theorem d_Se_init_17 : decode m_Se_init.2.1 17 = .ok (.putfield 15, 3) ∧ 17 + 3 = 20 := ⟨by decide +kernel, rfl⟩
theorem d_Se_init_20 : decode m_Se_init.2.1 20 = .ok (.aload_n 0, 1) ∧ 20 + 1 = 21 := ⟨by decide +kernel, rfl⟩
theorem d_Se_init_21 : decode m_Se_init.2.1 21 = .ok (.bipush 6, 2) ∧ 21 + 2 = 23 ∧ (Int8.ofInt 6).toInt32 = Int32.ofInt 6 := ⟨by decide +kernel, rfl, by decide +kernel⟩
theorem d_Se_init_23 : decode m_Se_init.2.1 23 = .ok (.newarray .int, 2) ∧ 23 + 2 = 25 := ⟨by decide +kernel, rfl⟩
theorem d_Se_init_25 : decode m_Se_init.2.1 25 = .ok (.putfield 18, 3) ∧ 25 + 3 = 28 := ⟨by decide +kernel, rfl⟩
theorem d_Se_init_28 : decode m_Se_init.2.1 28 = .ok (.aload_n 0, 1) ∧ 28 + 1 = 29 := ⟨by decide +kernel, rfl⟩
theorem d_Se_init_29 : decode m_Se_init.2.1 29 = .ok (.bipush 6, 2) ∧ 29 + 2 = 31 ∧ (Int8.ofInt 6).toInt32 = Int32.ofInt 6 := ⟨by decide +kernel, rfl, by decide +kernel⟩
theorem d_Se_init_31 : decode m_Se_init.2.1 31 = .ok (.newarray .int, 2) ∧ 31 + 2 = 33 := ⟨by decide +kernel, rfl⟩
theorem d_Se_init_33 : decode m_Se_init.2.1 33 = .ok (.putfield 21, 3) ∧ 33 + 3 = 36 := ⟨by decide +kernel, rfl⟩
theorem d_Se_init_36 : decode m_Se_init.2.1 36 = .ok (.aload_n 0, 1) ∧ 36 + 1 = 37 := ⟨by decide +kernel, rfl⟩
theorem d_Se_init_37 : decode m_Se_init.2.1 37 = .ok (.iconst 0, 1) ∧ 37 + 1 = 38 := ⟨by decide +kernel, rfl⟩
theorem d_Se_init_38 : decode m_Se_init.2.1 38 = .ok (.putfield 24, 3) ∧ 38 + 3 = 41 := ⟨by decide +kernel, rfl⟩
theorem d_Se_init_41 : decode m_Se_init.2.1 41 = .ok (.return_, 1) := by decide +kernel
theorem d_Se_append_0 : decode m_Se_append.2.1 0 = .ok (.aload_n 0, 1) ∧ 0 + 1 = 1 := ⟨by decide +kernel, rfl⟩
theorem d_Se_append_1 : decode m_Se_append.2.1 1 = .ok (.getfield 24, 3) ∧ 1 + 3 = 4 := ⟨by decide +kernel, rfl⟩
theorem d_Se_append_4 : decode m_Se_append.2.1 4 = .ok (.bipush 6, 2) ∧ 4 + 2 = 6 ∧ (Int8.ofInt 6).toInt32 = Int32.ofInt 6 := ⟨by decide +kernel, rfl, by decide +kernel⟩
theorem d_Se_append_6 : decode m_Se_append.2.1 6 = .ok (.if_icmp .lt 5, 3) ∧ 6 + 3 = 9 ∧ (((6 : Nat) : Int) + (5) = ((11 : Nat) : Int)) := ⟨by decide +kernel, rfl, by decide⟩
theorem d_Se_append_9 : decode m_Se_append.2.1 9 = .ok (.iconst 0, 1) ∧ 9 + 1 = 10 := ⟨by decide +kernel, rfl⟩
theorem d_Se_append_10 : decode m_Se_append.2.1 10 = .ok (.ireturn, 1) := by decide +kernel
theorem d_Se_append_11 : decode m_Se_append.2.1 11 = .ok (.aload_n 0, 1) ∧ 11 + 1 = 12 := ⟨by decide +kernel, rfl⟩
theorem d_Se_append_12 : decode m_Se_append.2.1 12 = .ok (.getfield 9, 3) ∧ 12 + 3 = 15 := ⟨by decide +kernel, rfl⟩
theorem d_Se_append_15 : decode m_Se_append.2.1 15 = .ok (.aload_n 0, 1) ∧ 15 + 1 = 16 := ⟨by decide +kernel, rfl⟩
theorem d_Se_append_16 : decode m_Se_append.2.1 16 = .ok (.getfield 24, 3) ∧ 16 + 3 = 19 := ⟨by decide +kernel, rfl⟩
theorem d_Se_append_19 : decode m_Se_append.2.1 19 = .ok (.iload_n 1, 1) ∧ 19 + 1 = 20 := ⟨by decide +kernel, rfl⟩
theorem d_Se_append_20 : decode m_Se_append.2.1 20 = .ok (.iastore, 1) ∧ 20 + 1 = 21 := ⟨by decide +kernel, rfl⟩
theorem d_Se_append_21 : decode m_Se_append.2.1 21 = .ok (.aload_n 0, 1) ∧ 21 + 1 = 22 := ⟨by decide +kernel, rfl⟩
theorem d_Se_append_22 : decode m_Se_append.2.1 22 = .ok (.getfield 15, 3) ∧ 22 + 3 = 25 := ⟨by decide +kernel, rfl⟩
theorem d_Se_append_25 : decode m_Se_append.2.1 25 = .ok (.aload_n 0, 1) ∧ 25 + 1 = 26 := ⟨by decide +kernel, rfl⟩
theorem d_Se_append_26 : decode m_Se_append.2.1 26 = .ok (.getfield 24, 3) ∧ 26 + 3 = 29 := ⟨by decide +kernel, rfl⟩
theorem d_Se_append_29 : decode m_Se_append.2.1 29 = .ok (.iload_n 2, 1) ∧ 29 + 1 = 30 := ⟨by decide +kernel, rfl⟩
theorem d_Se_append_30 : decode m_Se_append.2.1 30 = .ok (.iastore, 1) ∧ 30 + 1 = 31 := ⟨by decide +kernel, rfl⟩
theorem d_Se_append_31 : decode m_Se_append.2.1 31 = .ok (.aload_n 0, 1) ∧ 31 + 1 = 32 := ⟨by decide +kernel, rfl⟩
theorem d_Se_append_32 : decode m_Se_append.2.1 32 = .ok (.getfield 18, 3) ∧ 32 + 3 = 35 := ⟨by decide +kernel, rfl⟩
theorem d_Se_append_35 : decode m_Se_append.2.1 35 = .ok (.aload_n 0, 1) ∧ 35 + 1 = 36 := ⟨by decide +kernel, rfl⟩
theorem d_Se_append_36 : decode m_Se_append.2.1 36 = .ok (.getfield 24, 3) ∧ 36 + 3 = 39 := ⟨by decide +kernel, rfl⟩
theorem d_Se_append_39 : decode m_Se_append.2.1 39 = .ok (.iload_n 3, 1) ∧ 39 + 1 = 40 := ⟨by decide +kernel, rfl⟩
theorem d_Se_append_40 : decode m_Se_append.2.1 40 = .ok (.iastore, 1) ∧ 40 + 1 = 41 := ⟨by decide +kernel, rfl⟩
theorem d_Se_append_41 : decode m_Se_append.2.1 41 = .ok (.aload_n 0, 1) ∧ 41 + 1 = 42 := ⟨by decide +kernel, rfl⟩
theorem d_Se_append_42 : decode m_Se_append.2.1 42 = .ok (.getfield 21, 3) ∧ 42 + 3 = 45 := ⟨by decide +kernel, rfl⟩
theorem d_Se_append_45 : decode m_Se_append.2.1 45 = .ok (.aload_n 0, 1) ∧ 45 + 1 = 46 := ⟨by decide +kernel, rfl⟩
theorem d_Se_append_46 : decode m_Se_append.2.1 46 = .ok (.getfield 24, 3) ∧ 46 + 3 = 49 := ⟨by decide +kernel, rfl⟩
theorem d_Se_append_49 : decode m_Se_append.2.1 49 = .ok (.iload 4, 2) ∧ 49 + 2 = 51 := ⟨by decide +kernel, rfl⟩
theorem d_Se_append_51 : decode m_Se_append.2.1 51 = .ok (.iastore, 1) ∧ 51 + 1 = 52 := ⟨by decide +kernel, rfl⟩
theorem d_Se_append_52 : decode m_Se_append.2.1 52 = .ok (.aload_n 0, 1) ∧ 52 + 1 = 53 := ⟨by decide +kernel, rfl⟩
theorem d_Se_append_53 : decode m_Se_append.2.1 53 = .ok (.dup, 1) ∧ 53 + 1 = 54 := ⟨by decide +kernel, rfl⟩
theorem d_Se_append_54 : decode m_Se_append.2.1 54 = .ok (.getfield 24, 3) ∧ 54 + 3 = 57 := ⟨by decide +kernel, rfl⟩
theorem d_Se_append_57 : decode m_Se_append.2.1 57 = .ok (.iconst 1, 1) ∧ 57 + 1 = 58 := ⟨by decide +kernel, rfl⟩
theorem d_Se_append_58 : decode m_Se_append.2.1 58 = .ok (.iadd, 1) ∧ 58 + 1 = 59 := ⟨by decide +kernel, rfl⟩
theorem d_Se_append_59 : decode m_Se_append.2.1 59 = .ok (.putfield 24, 3) ∧ 59 + 3 = 62 := ⟨by decide +kernel, rfl⟩
theorem d_Se_append_62 : decode m_Se_append.2.1 62 = .ok (.iconst 1, 1) ∧ 62 + 1 = 63 := ⟨by decide +kernel, rfl⟩
theorem d_Se_append_63 : decode m_Se_append.2.1 63 = .ok (.ireturn, 1) := by decide +kernel
theorem d_Se_copy_0 : decode m_Se_copy.2.1 0 = .ok (.iconst 0, 1) ∧ 0 + 1 = 1 := ⟨by decide +kernel, rfl⟩
theorem d_Se_copy_1 : decode m_Se_copy.2.1 1 = .ok (.istore_n 2, 1) ∧ 1 + 1 = 2 := ⟨by decide +kernel, rfl⟩
theorem d_Se_copy_2 : decode m_Se_copy.2.1 2 = .ok (.iload_n 2, 1) ∧ 2 + 1 = 3 := ⟨by decide +kernel, rfl⟩
theorem d_Se_copy_3 : decode m_Se_copy.2.1 3 = .ok (.aload_n 1, 1) ∧ 3 + 1 = 4 := ⟨by decide +kernel, rfl⟩
theorem d_Se_copy_4 : decode m_Se_copy.2.1 4 = .ok (.getfield 24, 3) ∧ 4 + 3 = 7 := ⟨by decide +kernel, rfl⟩
theorem d_Se_copy_7 : decode m_Se_copy.2.1 7 = .ok (.if_icmp .ge 57, 3) ∧ 7 + 3 = 10 ∧ (((7 : Nat) : Int) + (57) = ((64 : Nat) : Int)) := ⟨by decide +kernel, rfl, by decide⟩
theorem d_Se_copy_10 : decode m_Se_copy.2.1 10 = .ok (.aload_n 0, 1) ∧ 10 + 1 = 11 := ⟨by decide +kernel, rfl⟩
theorem d_Se_copy_11 : decode m_Se_copy.2.1 11 = .ok (.getfield 9, 3) ∧ 11 + 3 = 14 := ⟨by decide +kernel, rfl⟩
theorem d_Se_copy_14 : decode m_Se_copy.2.1 14 = .ok (.iload_n 2, 1) ∧ 14 + 1 = 15 := ⟨by decide +kernel, rfl⟩
theorem d_Se_copy_15 : decode m_Se_copy.2.1 15 = .ok (.aload_n 1, 1) ∧ 15 + 1 = 16 := ⟨by decide +kernel, rfl⟩
theorem d_Se_copy_16 : decode m_Se_copy.2.1 16 = .ok (.getfield 9, 3) ∧ 16 + 3 = 19 := ⟨by decide +kernel, rfl⟩
theorem d_Se_copy_19 : decode m_Se_copy.2.1 19 = .ok (.iload_n 2, 1) ∧ 19 + 1 = 20 := ⟨by decide +kernel, rfl⟩
theorem d_Se_copy_20 : decode m_Se_copy.2.1 20 = .ok (.iaload, 1) ∧ 20 + 1 = 21 := ⟨by decide +kernel, rfl⟩
theorem d_Se_copy_21 : decode m_Se_copy.2.1 21 = .ok (.iastore, 1) ∧ 21 + 1 = 22 := ⟨by decide +kernel, rfl⟩
theorem d_Se_copy_22 : decode m_Se_copy.2.1 22 = .ok (.aload_n 0, 1) ∧ 22 + 1 = 23 := ⟨by decide +kernel, rfl⟩
theorem d_Se_copy_23 : decode m_Se_copy.2.1 23 = .ok (.getfield 15, 3) ∧ 23 + 3 = 26 := ⟨by decide +kernel, rfl⟩
theorem d_Se_copy_26 : decode m_Se_copy.2.1 26 = .ok (.iload_n 2, 1) ∧ 26 + 1 = 27 := ⟨by decide +kernel, rfl⟩
theorem d_Se_copy_27 : decode m_Se_copy.2.1 27 = .ok (.aload_n 1, 1) ∧ 27 + 1 = 28 := ⟨by decide +kernel, rfl⟩
theorem d_Se_copy_28 : decode m_Se_copy.2.1 28 = .ok (.getfield 15, 3) ∧ 28 + 3 = 31 := ⟨by decide +kernel, rfl⟩
theorem d_Se_copy_31 : decode m_Se_copy.2.1 31 = .ok (.iload_n 2, 1) ∧ 31 + 1 = 32 := ⟨by decide +kernel, rfl⟩
theorem d_Se_copy_32 : decode m_Se_copy.2.1 32 = .ok (.iaload, 1) ∧ 32 + 1 = 33 := ⟨by decide +kernel, rfl⟩
theorem d_Se_copy_33 : decode m_Se_copy.2.1 33 = .ok (.iastore, 1) ∧ 33 + 1 = 34 := ⟨by decide +kernel, rfl⟩
theorem d_Se_copy_34 : decode m_Se_copy.2.1 34 = .ok (.aload_n 0, 1) ∧ 34 + 1 = 35 := ⟨by decide +kernel, rfl⟩
theorem d_Se_copy_35 : decode m_Se_copy.2.1 35 = .ok (.getfield 18, 3) ∧ 35 + 3 = 38 := ⟨by decide +kernel, rfl⟩
theorem d_Se_copy_38 : decode m_Se_copy.2.1 38 = .ok (.iload_n 2, 1) ∧ 38 + 1 = 39 := ⟨by decide +kernel, rfl⟩
theorem d_Se_copy_39 : decode m_Se_copy.2.1 39 = .ok (.aload_n 1, 1) ∧ 39 + 1 = 40 := ⟨by decide +kernel, rfl⟩
theorem d_Se_copy_40 : decode m_Se_copy.2.1 40 = .ok (.getfield 18, 3) ∧ 40 + 3 = 43 := ⟨by decide +kernel, rfl⟩
theorem d_Se_copy_43 : decode m_Se_copy.2.1 43 = .ok (.iload_n 2, 1) ∧ 43 + 1 = 44 := ⟨by decide +kernel, rfl⟩
theorem d_Se_copy_44 : decode m_Se_copy.2.1 44 = .ok (.iaload, 1) ∧ 44 + 1 = 45 := ⟨by decide +kernel, rfl⟩
theorem d_Se_copy_45 : decode m_Se_copy.2.1 45 = .ok (.iastore, 1) ∧ 45 + 1 = 46 := ⟨by decide +kernel, rfl⟩
theorem d_Se_copy_46 : decode m_Se_copy.2.1 46 = .ok (.aload_n 0, 1) ∧ 46 + 1 = 47 := ⟨by decide +kernel, rfl⟩
theorem d_Se_copy_47 : decode m_Se_copy.2.1 47 = .ok (.getfield 21, 3) ∧ 47 + 3 = 50 := ⟨by decide +kernel, rfl⟩
theorem d_Se_copy_50 : decode m_Se_copy.2.1 50 = .ok (.iload_n 2, 1) ∧ 50 + 1 = 51 := ⟨by decide +kernel, rfl⟩
theorem d_Se_copy_51 : decode m_Se_copy.2.1 51 = .ok (.aload_n 1, 1) ∧ 51 + 1 = 52 := ⟨by decide +kernel, rfl⟩
theorem d_Se_copy_52 : decode m_Se_copy.2.1 52 = .ok (.getfield 21, 3) ∧ 52 + 3 = 55 := ⟨by decide +kernel, rfl⟩
theorem d_Se_copy_55 : decode m_Se_copy.2.1 55 = .ok (.iload_n 2, 1) ∧ 55 + 1 = 56 := ⟨by decide +kernel, rfl⟩
theorem d_Se_copy_56 : decode m_Se_copy.2.1 56 = .ok (.iaload, 1) ∧ 56 + 1 = 57 := ⟨by decide +kernel, rfl⟩
theorem d_Se_copy_57 : decode m_Se_copy.2.1 57 = .ok (.iastore, 1) ∧ 57 + 1 = 58 := ⟨by decide +kernel, rfl⟩
theorem d_Se_copy_58 : decode m_Se_copy.2.1 58 = .ok (.iinc 2 1, 3) ∧ 58 + 3 = 61 := ⟨by decide +kernel, rfl⟩
theorem d_Se_copy_61 : decode m_Se_copy.2.1 61 = .ok (.goto (-59), 3) ∧ (((61 : Nat) : Int) + (-59) = ((2 : Nat) : Int)) := ⟨by decide +kernel, by decide⟩
theorem d_Se_copy_64 : decode m_Se_copy.2.1 64 = .ok (.aload_n 0, 1) ∧ 64 + 1 = 65 := ⟨by decide +kernel, rfl⟩
theorem d_Se_copy_65 : decode m_Se_copy.2.1 65 = .ok (.aload_n 1, 1) ∧ 65 + 1 = 66 := ⟨by decide +kernel, rfl⟩
theorem d_Se_copy_66 : decode m_Se_copy.2.1 66 = .ok (.getfield 24, 3) ∧ 66 + 3 = 69 := ⟨by decide +kernel, rfl⟩
theorem d_Se_copy_69 : decode m_Se_copy.2.1 69 = .ok (.putfield 24, 3) ∧ 69 + 3 = 72 := ⟨by decide +kernel, rfl⟩
theorem d_Se_copy_72 : decode m_Se_copy.2.1 72 = .ok (.return_, 1) := by decide +kernel
theorem d_Se_sortsOf_0 : decode m_Se_sortsOf.2.1 0 = .ok (.iconst 0, 1) ∧ 0 + 1 = 1 := ⟨by decide +kernel, rfl⟩
theorem d_Se_sortsOf_1 : decode m_Se_sortsOf.2.1 1 = .ok (.istore_n 3, 1) ∧ 1 + 1 = 2 := ⟨by decide +kernel, rfl⟩
theorem d_Se_sortsOf_2 : decode m_Se_sortsOf.2.1 2 = .ok (.iconst 0, 1) ∧ 2 + 1 = 3 := ⟨by decide +kernel, rfl⟩
theorem d_Se_sortsOf_3 : decode m_Se_sortsOf.2.1 3 = .ok (.istore 4, 2) ∧ 3 + 2 = 5 := ⟨by decide +kernel, rfl⟩
theorem d_Se_sortsOf_5 : decode m_Se_sortsOf.2.1 5 = .ok (.iload 4, 2) ∧ 5 + 2 = 7 := ⟨by decide +kernel, rfl⟩
theorem d_Se_sortsOf_7 : decode m_Se_sortsOf.2.1 7 = .ok (.iconst 5, 1) ∧ 7 + 1 = 8 := ⟨by decide +kernel, rfl⟩
theorem d_Se_sortsOf_8 : decode m_Se_sortsOf.2.1 8 = .ok (.if_icmp .ge 27, 3) ∧ 8 + 3 = 11 ∧ (((8 : Nat) : Int) + (27) = ((35 : Nat) : Int)) := ⟨by decide +kernel, rfl, by decide⟩
theorem d_Se_sortsOf_11 : decode m_Se_sortsOf.2.1 11 = .ok (.aload_n 0, 1) ∧ 11 + 1 = 12 := ⟨by decide +kernel, rfl⟩
theorem d_Se_sortsOf_12 : decode m_Se_sortsOf.2.1 12 = .ok (.iload 4, 2) ∧ 12 + 2 = 14 := ⟨by decide +kernel, rfl⟩
theorem d_Se_sortsOf_14 : decode m_Se_sortsOf.2.1 14 = .ok (.iload_n 1, 1) ∧ 14 + 1 = 15 := ⟨by decide +kernel, rfl⟩
theorem d_Se_sortsOf_15 : decode m_Se_sortsOf.2.1 15 = .ok (.aload_n 2, 1) ∧ 15 + 1 = 16 := ⟨by decide +kernel, rfl⟩
theorem d_Se_sortsOf_16 : decode m_Se_sortsOf.2.1 16 = .ok (.invokevirtual 28, 3) ∧ 16 + 3 = 19 := ⟨by decide +kernel, rfl⟩
theorem d_Se_sortsOf_19 : decode m_Se_sortsOf.2.1 19 = .ok (.ifCond .eq 10, 3) ∧ 19 + 3 = 22 ∧ (((19 : Nat) : Int) + (10) = ((29 : Nat) : Int)) := ⟨by decide +kernel, rfl, by decide⟩
theorem d_Se_sortsOf_22 : decode m_Se_sortsOf.2.1 22 = .ok (.iload_n 3, 1) ∧ 22 + 1 = 23 := ⟨by decide +kernel, rfl⟩
theorem d_Se_sortsOf_23 : decode m_Se_sortsOf.2.1 23 = .ok (.iconst 1, 1) ∧ 23 + 1 = 24 := ⟨by decide +kernel, rfl⟩
theorem d_Se_sortsOf_24 : decode m_Se_sortsOf.2.1 24 = .ok (.iload 4, 2) ∧ 24 + 2 = 26 := ⟨by decide +kernel, rfl⟩
theorem d_Se_sortsOf_26 : decode m_Se_sortsOf.2.1 26 = .ok (.ishl, 1) ∧ 26 + 1 = 27 := ⟨by decide +kernel, rfl⟩
theorem d_Se_sortsOf_27 : decode m_Se_sortsOf.2.1 27 = .ok (.ior, 1) ∧ 27 + 1 = 28 := ⟨by decide +kernel, rfl⟩
theorem d_Se_sortsOf_28 : decode m_Se_sortsOf.2.1 28 = .ok (.istore_n 3, 1) ∧ 28 + 1 = 29 := ⟨by decide +kernel, rfl⟩
theorem d_Se_sortsOf_29 : decode m_Se_sortsOf.2.1 29 = .ok (.iinc 4 1, 3) ∧ 29 + 3 = 32 := ⟨by decide +kernel, rfl⟩
theorem d_Se_sortsOf_32 : decode m_Se_sortsOf.2.1 32 = .ok (.goto (-27), 3) ∧ (((32 : Nat) : Int) + (-27) = ((5 : Nat) : Int)) := ⟨by decide +kernel, by decide⟩
theorem d_Se_sortsOf_35 : decode m_Se_sortsOf.2.1 35 = .ok (.iload_n 3, 1) ∧ 35 + 1 = 36 := ⟨by decide +kernel, rfl⟩
theorem d_Se_sortsOf_36 : decode m_Se_sortsOf.2.1 36 = .ok (.ireturn, 1) := by decide +kernel
theorem d_Se_canBe_0 : decode m_Se_canBe.2.1 0 = .ok (.iconst 0, 1) ∧ 0 + 1 = 1 := ⟨by decide +kernel, rfl⟩
theorem d_Se_canBe_1 : decode m_Se_canBe.2.1 1 = .ok (.istore 4, 2) ∧ 1 + 2 = 3 := ⟨by decide +kernel, rfl⟩
theorem d_Se_canBe_3 : decode m_Se_canBe.2.1 3 = .ok (.iload 4, 2) ∧ 3 + 2 = 5 := ⟨by decide +kernel, rfl⟩
theorem d_Se_canBe_5 : decode m_Se_canBe.2.1 5 = .ok (.aload_n 0, 1) ∧ 5 + 1 = 6 := ⟨by decide +kernel, rfl⟩
theorem d_Se_canBe_6 : decode m_Se_canBe.2.1 6 = .ok (.getfield 24, 3) ∧ 6 + 3 = 9 := ⟨by decide +kernel, rfl⟩
theorem d_Se_canBe_9 : decode m_Se_canBe.2.1 9 = .ok (.if_icmp .ge 51, 3) ∧ 9 + 3 = 12 ∧ (((9 : Nat) : Int) + (51) = ((60 : Nat) : Int)) := ⟨by decide +kernel, rfl, by decide⟩
theorem d_Se_canBe_12 : decode m_Se_canBe.2.1 12 = .ok (.aload_n 0, 1) ∧ 12 + 1 = 13 := ⟨by decide +kernel, rfl⟩
theorem d_Se_canBe_13 : decode m_Se_canBe.2.1 13 = .ok (.getfield 9, 3) ∧ 13 + 3 = 16 := ⟨by decide +kernel, rfl⟩
theorem d_Se_canBe_16 : decode m_Se_canBe.2.1 16 = .ok (.iload 4, 2) ∧ 16 + 2 = 18 := ⟨by decide +kernel, rfl⟩
theorem d_Se_canBe_18 : decode m_Se_canBe.2.1 18 = .ok (.iaload, 1) ∧ 18 + 1 = 19 := ⟨by decide +kernel, rfl⟩
theorem d_Se_canBe_19 : decode m_Se_canBe.2.1 19 = .ok (.iload_n 2, 1) ∧ 19 + 1 = 20 := ⟨by decide +kernel, rfl⟩
theorem d_Se_canBe_20 : decode m_Se_canBe.2.1 20 = .ok (.if_icmp .ne 34, 3) ∧ 20 + 3 = 23 ∧ (((20 : Nat) : Int) + (34) = ((54 : Nat) : Int)) := ⟨by decide +kernel, rfl, by decide⟩
theorem d_Se_canBe_23 : decode m_Se_canBe.2.1 23 = .ok (.aload_n 3, 1) ∧ 23 + 1 = 24 := ⟨by decide +kernel, rfl⟩
theorem d_Se_canBe_24 : decode m_Se_canBe.2.1 24 = .ok (.iload_n 1, 1) ∧ 24 + 1 = 25 := ⟨by decide +kernel, rfl⟩
theorem d_Se_canBe_25 : decode m_Se_canBe.2.1 25 = .ok (.aload_n 0, 1) ∧ 25 + 1 = 26 := ⟨by decide +kernel, rfl⟩
theorem d_Se_canBe_26 : decode m_Se_canBe.2.1 26 = .ok (.getfield 15, 3) ∧ 26 + 3 = 29 := ⟨by decide +kernel, rfl⟩
theorem d_Se_canBe_29 : decode m_Se_canBe.2.1 29 = .ok (.iload 4, 2) ∧ 29 + 2 = 31 := ⟨by decide +kernel, rfl⟩
theorem d_Se_canBe_31 : decode m_Se_canBe.2.1 31 = .ok (.iaload, 1) ∧ 31 + 1 = 32 := ⟨by decide +kernel, rfl⟩
theorem d_Se_canBe_32 : decode m_Se_canBe.2.1 32 = .ok (.aload_n 0, 1) ∧ 32 + 1 = 33 := ⟨by decide +kernel, rfl⟩
theorem d_Se_canBe_33 : decode m_Se_canBe.2.1 33 = .ok (.getfield 18, 3) ∧ 33 + 3 = 36 := ⟨by decide +kernel, rfl⟩
theorem d_Se_canBe_36 : decode m_Se_canBe.2.1 36 = .ok (.iload 4, 2) ∧ 36 + 2 = 38 := ⟨by decide +kernel, rfl⟩
theorem d_Se_canBe_38 : decode m_Se_canBe.2.1 38 = .ok (.iaload, 1) ∧ 38 + 1 = 39 := ⟨by decide +kernel, rfl⟩
theorem d_Se_canBe_39 : decode m_Se_canBe.2.1 39 = .ok (.invokevirtual 32, 3) ∧ 39 + 3 = 42 := ⟨by decide +kernel, rfl⟩
theorem d_Se_canBe_42 : decode m_Se_canBe.2.1 42 = .ok (.aload_n 0, 1) ∧ 42 + 1 = 43 := ⟨by decide +kernel, rfl⟩
theorem d_Se_canBe_43 : decode m_Se_canBe.2.1 43 = .ok (.getfield 21, 3) ∧ 43 + 3 = 46 := ⟨by decide +kernel, rfl⟩
theorem d_Se_canBe_46 : decode m_Se_canBe.2.1 46 = .ok (.iload 4, 2) ∧ 46 + 2 = 48 := ⟨by decide +kernel, rfl⟩
theorem d_Se_canBe_48 : decode m_Se_canBe.2.1 48 = .ok (.iaload, 1) ∧ 48 + 1 = 49 := ⟨by decide +kernel, rfl⟩
theorem d_Se_canBe_49 : decode m_Se_canBe.2.1 49 = .ok (.if_icmp .eq 5, 3) ∧ 49 + 3 = 52 ∧ (((49 : Nat) : Int) + (5) = ((54 : Nat) : Int)) := ⟨by decide +kernel, rfl, by decide⟩
theorem d_Se_canBe_52 : decode m_Se_canBe.2.1 52 = .ok (.iconst 0, 1) ∧ 52 + 1 = 53 := ⟨by decide +kernel, rfl⟩
theorem d_Se_canBe_53 : decode m_Se_canBe.2.1 53 = .ok (.ireturn, 1) := by decide +kernel
theorem d_Se_canBe_54 : decode m_Se_canBe.2.1 54 = .ok (.iinc 4 1, 3) ∧ 54 + 3 = 57 := ⟨by decide +kernel, rfl⟩
theorem d_Se_canBe_57 : decode m_Se_canBe.2.1 57 = .ok (.goto (-54), 3) ∧ (((57 : Nat) : Int) + (-54) = ((3 : Nat) : Int)) := ⟨by decide +kernel, by decide⟩
theorem d_Se_canBe_60 : decode m_Se_canBe.2.1 60 = .ok (.iconst 1, 1) ∧ 60 + 1 = 61 := ⟨by decide +kernel, rfl⟩
theorem d_Se_canBe_61 : decode m_Se_canBe.2.1 61 = .ok (.ireturn, 1) := by decide +kernel
theorem d_Se_nextAsk_0 : decode m_Se_nextAsk.2.1 0 = .ok (.iload_n 0, 1) ∧ 0 + 1 = 1 := ⟨by decide +kernel, rfl⟩
theorem d_Se_nextAsk_1 : decode m_Se_nextAsk.2.1 1 = .ok (.ifCond .ne 5, 3) ∧ 1 + 3 = 4 ∧ (((1 : Nat) : Int) + (5) = ((6 : Nat) : Int)) := ⟨by decide +kernel, rfl, by decide⟩
theorem d_Se_nextAsk_4 : decode m_Se_nextAsk.2.1 4 = .ok (.iconst (-1), 1) ∧ 4 + 1 = 5 := ⟨by decide +kernel, rfl⟩
theorem d_Se_nextAsk_5 : decode m_Se_nextAsk.2.1 5 = .ok (.ireturn, 1) := by decide +kernel
theorem d_Se_nextAsk_6 : decode m_Se_nextAsk.2.1 6 = .ok (.bipush (-9), 2) ∧ 6 + 2 = 8 ∧ (Int8.ofInt (-9)).toInt32 = Int32.ofInt (-9) := ⟨by decide +kernel, rfl, by decide +kernel⟩
theorem d_Se_nextAsk_8 : decode m_Se_nextAsk.2.1 8 = .ok (.istore_n 2, 1) ∧ 8 + 1 = 9 := ⟨by decide +kernel, rfl⟩
theorem d_Se_nextAsk_9 : decode m_Se_nextAsk.2.1 9 = .ok (.bipush 6, 2) ∧ 9 + 2 = 11 ∧ (Int8.ofInt 6).toInt32 = Int32.ofInt 6 := ⟨by decide +kernel, rfl, by decide +kernel⟩
theorem d_Se_nextAsk_11 : decode m_Se_nextAsk.2.1 11 = .ok (.istore_n 3, 1) ∧ 11 + 1 = 12 := ⟨by decide +kernel, rfl⟩
theorem d_Se_nextAsk_12 : decode m_Se_nextAsk.2.1 12 = .ok (.bipush (-9), 2) ∧ 12 + 2 = 14 ∧ (Int8.ofInt (-9)).toInt32 = Int32.ofInt (-9) := ⟨by decide +kernel, rfl, by decide +kernel⟩
theorem d_Se_nextAsk_14 : decode m_Se_nextAsk.2.1 14 = .ok (.istore 4, 2) ∧ 14 + 2 = 16 := ⟨by decide +kernel, rfl⟩
theorem d_Se_nextAsk_16 : decode m_Se_nextAsk.2.1 16 = .ok (.iload 4, 2) ∧ 16 + 2 = 18 := ⟨by decide +kernel, rfl⟩
theorem d_Se_nextAsk_18 : decode m_Se_nextAsk.2.1 18 = .ok (.bipush 9, 2) ∧ 18 + 2 = 20 ∧ (Int8.ofInt 9).toInt32 = Int32.ofInt 9 := ⟨by decide +kernel, rfl, by decide +kernel⟩
theorem d_Se_nextAsk_20 : decode m_Se_nextAsk.2.1 20 = .ok (.if_icmp .gt 30, 3) ∧ 20 + 3 = 23 ∧ (((20 : Nat) : Int) + (30) = ((50 : Nat) : Int)) := ⟨by decide +kernel, rfl, by decide⟩
theorem d_Se_nextAsk_23 : decode m_Se_nextAsk.2.1 23 = .ok (.iload_n 0, 1) ∧ 23 + 1 = 24 := ⟨by decide +kernel, rfl⟩
theorem d_Se_nextAsk_24 : decode m_Se_nextAsk.2.1 24 = .ok (.aload_n 1, 1) ∧ 24 + 1 = 25 := ⟨by decide +kernel, rfl⟩
theorem d_Se_nextAsk_25 : decode m_Se_nextAsk.2.1 25 = .ok (.iload 4, 2) ∧ 25 + 2 = 27 := ⟨by decide +kernel, rfl⟩
theorem d_Se_nextAsk_27 : decode m_Se_nextAsk.2.1 27 = .ok (.invokestatic 38, 3) ∧ 27 + 3 = 30 := ⟨by decide +kernel, rfl⟩
theorem d_Se_nextAsk_30 : decode m_Se_nextAsk.2.1 30 = .ok (.istore 5, 2) ∧ 30 + 2 = 32 := ⟨by decide +kernel, rfl⟩
theorem d_Se_nextAsk_32 : decode m_Se_nextAsk.2.1 32 = .ok (.iload 5, 2) ∧ 32 + 2 = 34 := ⟨by decide +kernel, rfl⟩
theorem d_Se_nextAsk_34 : decode m_Se_nextAsk.2.1 34 = .ok (.iload_n 3, 1) ∧ 34 + 1 = 35 := ⟨by decide +kernel, rfl⟩
theorem d_Se_nextAsk_35 : decode m_Se_nextAsk.2.1 35 = .ok (.if_icmp .ge 9, 3) ∧ 35 + 3 = 38 ∧ (((35 : Nat) : Int) + (9) = ((44 : Nat) : Int)) := ⟨by decide +kernel, rfl, by decide⟩
theorem d_Se_nextAsk_38 : decode m_Se_nextAsk.2.1 38 = .ok (.iload 5, 2) ∧ 38 + 2 = 40 := ⟨by decide +kernel, rfl⟩
theorem d_Se_nextAsk_40 : decode m_Se_nextAsk.2.1 40 = .ok (.istore_n 3, 1) ∧ 40 + 1 = 41 := ⟨by decide +kernel, rfl⟩
theorem d_Se_nextAsk_41 : decode m_Se_nextAsk.2.1 41 = .ok (.iload 4, 2) ∧ 41 + 2 = 43 := ⟨by decide +kernel, rfl⟩
theorem d_Se_nextAsk_43 : decode m_Se_nextAsk.2.1 43 = .ok (.istore_n 2, 1) ∧ 43 + 1 = 44 := ⟨by decide +kernel, rfl⟩
theorem d_Se_nextAsk_44 : decode m_Se_nextAsk.2.1 44 = .ok (.iinc 4 1, 3) ∧ 44 + 3 = 47 := ⟨by decide +kernel, rfl⟩
theorem d_Se_nextAsk_47 : decode m_Se_nextAsk.2.1 47 = .ok (.goto (-31), 3) ∧ (((47 : Nat) : Int) + (-31) = ((16 : Nat) : Int)) := ⟨by decide +kernel, by decide⟩
theorem d_Se_nextAsk_50 : decode m_Se_nextAsk.2.1 50 = .ok (.iload_n 2, 1) ∧ 50 + 1 = 51 := ⟨by decide +kernel, rfl⟩
theorem d_Se_nextAsk_51 : decode m_Se_nextAsk.2.1 51 = .ok (.bipush 9, 2) ∧ 51 + 2 = 53 ∧ (Int8.ofInt 9).toInt32 = Int32.ofInt 9 := ⟨by decide +kernel, rfl, by decide +kernel⟩
theorem d_Se_nextAsk_53 : decode m_Se_nextAsk.2.1 53 = .ok (.iadd, 1) ∧ 53 + 1 = 54 := ⟨by decide +kernel, rfl⟩
theorem d_Se_nextAsk_54 : decode m_Se_nextAsk.2.1 54 = .ok (.ireturn, 1) := by decide +kernel
theorem d_Se_leftAtWorst_0 : decode m_Se_leftAtWorst.2.1 0 = .ok (.iconst 0, 1) ∧ 0 + 1 = 1 := ⟨by decide +kernel, rfl⟩
theorem d_Se_leftAtWorst_1 : decode m_Se_leftAtWorst.2.1 1 = .ok (.istore_n 3, 1) ∧ 1 + 1 = 2 := ⟨by decide +kernel, rfl⟩
theorem d_Se_leftAtWorst_2 : decode m_Se_leftAtWorst.2.1 2 = .ok (.iconst 0, 1) ∧ 2 + 1 = 3 := ⟨by decide +kernel, rfl⟩
theorem d_Se_leftAtWorst_3 : decode m_Se_leftAtWorst.2.1 3 = .ok (.istore 4, 2) ∧ 3 + 2 = 5 := ⟨by decide +kernel, rfl⟩
theorem d_Se_leftAtWorst_5 : decode m_Se_leftAtWorst.2.1 5 = .ok (.iconst 0, 1) ∧ 5 + 1 = 6 := ⟨by decide +kernel, rfl⟩
theorem d_Se_leftAtWorst_6 : decode m_Se_leftAtWorst.2.1 6 = .ok (.istore 5, 2) ∧ 6 + 2 = 8 := ⟨by decide +kernel, rfl⟩
theorem d_Se_leftAtWorst_8 : decode m_Se_leftAtWorst.2.1 8 = .ok (.iconst 0, 1) ∧ 8 + 1 = 9 := ⟨by decide +kernel, rfl⟩
theorem d_Se_leftAtWorst_9 : decode m_Se_leftAtWorst.2.1 9 = .ok (.istore 6, 2) ∧ 9 + 2 = 11 := ⟨by decide +kernel, rfl⟩
theorem d_Se_leftAtWorst_11 : decode m_Se_leftAtWorst.2.1 11 = .ok (.iload 6, 2) ∧ 11 + 2 = 13 := ⟨by decide +kernel, rfl⟩
theorem d_Se_leftAtWorst_13 : decode m_Se_leftAtWorst.2.1 13 = .ok (.iconst 5, 1) ∧ 13 + 1 = 14 := ⟨by decide +kernel, rfl⟩
theorem d_Se_leftAtWorst_14 : decode m_Se_leftAtWorst.2.1 14 = .ok (.if_icmp .ge 74, 3) ∧ 14 + 3 = 17 ∧ (((14 : Nat) : Int) + (74) = ((88 : Nat) : Int)) := ⟨by decide +kernel, rfl, by decide⟩
theorem d_Se_leftAtWorst_17 : decode m_Se_leftAtWorst.2.1 17 = .ok (.iload_n 0, 1) ∧ 17 + 1 = 18 := ⟨by decide +kernel, rfl⟩
theorem d_Se_leftAtWorst_18 : decode m_Se_leftAtWorst.2.1 18 = .ok (.iload 6, 2) ∧ 18 + 2 = 20 := ⟨by decide +kernel, rfl⟩
theorem d_Se_leftAtWorst_20 : decode m_Se_leftAtWorst.2.1 20 = .ok (.ishr, 1) ∧ 20 + 1 = 21 := ⟨by decide +kernel, rfl⟩
theorem d_Se_leftAtWorst_21 : decode m_Se_leftAtWorst.2.1 21 = .ok (.iconst 1, 1) ∧ 21 + 1 = 22 := ⟨by decide +kernel, rfl⟩
theorem d_Se_leftAtWorst_22 : decode m_Se_leftAtWorst.2.1 22 = .ok (.iand, 1) ∧ 22 + 1 = 23 := ⟨by decide +kernel, rfl⟩
theorem d_Se_leftAtWorst_23 : decode m_Se_leftAtWorst.2.1 23 = .ok (.iconst 1, 1) ∧ 23 + 1 = 24 := ⟨by decide +kernel, rfl⟩
theorem d_Se_leftAtWorst_24 : decode m_Se_leftAtWorst.2.1 24 = .ok (.if_icmp .ne 58, 3) ∧ 24 + 3 = 27 ∧ (((24 : Nat) : Int) + (58) = ((82 : Nat) : Int)) := ⟨by decide +kernel, rfl, by decide⟩
theorem d_Se_leftAtWorst_27 : decode m_Se_leftAtWorst.2.1 27 = .ok (.aload_n 1, 1) ∧ 27 + 1 = 28 := ⟨by decide +kernel, rfl⟩
theorem d_Se_leftAtWorst_28 : decode m_Se_leftAtWorst.2.1 28 = .ok (.iload 6, 2) ∧ 28 + 2 = 30 := ⟨by decide +kernel, rfl⟩
theorem d_Se_leftAtWorst_30 : decode m_Se_leftAtWorst.2.1 30 = .ok (.iload_n 2, 1) ∧ 30 + 1 = 31 := ⟨by decide +kernel, rfl⟩
theorem d_Se_leftAtWorst_31 : decode m_Se_leftAtWorst.2.1 31 = .ok (.iconst 0, 1) ∧ 31 + 1 = 32 := ⟨by decide +kernel, rfl⟩
theorem d_Se_leftAtWorst_32 : decode m_Se_leftAtWorst.2.1 32 = .ok (.invokevirtual 32, 3) ∧ 32 + 3 = 35 := ⟨by decide +kernel, rfl⟩
theorem d_Se_leftAtWorst_35 : decode m_Se_leftAtWorst.2.1 35 = .ok (.istore 7, 2) ∧ 35 + 2 = 37 := ⟨by decide +kernel, rfl⟩
theorem d_Se_leftAtWorst_37 : decode m_Se_leftAtWorst.2.1 37 = .ok (.iload_n 3, 1) ∧ 37 + 1 = 38 := ⟨by decide +kernel, rfl⟩
theorem d_Se_leftAtWorst_38 : decode m_Se_leftAtWorst.2.1 38 = .ok (.iload 7, 2) ∧ 38 + 2 = 40 := ⟨by decide +kernel, rfl⟩
theorem d_Se_leftAtWorst_40 : decode m_Se_leftAtWorst.2.1 40 = .ok (.ifCond .ne 7, 3) ∧ 40 + 3 = 43 ∧ (((40 : Nat) : Int) + (7) = ((47 : Nat) : Int)) := ⟨by decide +kernel, rfl, by decide⟩
theorem d_Se_leftAtWorst_43 : decode m_Se_leftAtWorst.2.1 43 = .ok (.iconst 1, 1) ∧ 43 + 1 = 44 := ⟨by decide +kernel, rfl⟩
theorem d_Se_leftAtWorst_44 : decode m_Se_leftAtWorst.2.1 44 = .ok (.goto 4, 3) ∧ (((44 : Nat) : Int) + (4) = ((48 : Nat) : Int)) := ⟨by decide +kernel, by decide⟩
theorem d_Se_leftAtWorst_47 : decode m_Se_leftAtWorst.2.1 47 = .ok (.iconst 0, 1) ∧ 47 + 1 = 48 := ⟨by decide +kernel, rfl⟩
theorem d_Se_leftAtWorst_48 : decode m_Se_leftAtWorst.2.1 48 = .ok (.iadd, 1) ∧ 48 + 1 = 49 := ⟨by decide +kernel, rfl⟩
theorem d_Se_leftAtWorst_49 : decode m_Se_leftAtWorst.2.1 49 = .ok (.istore_n 3, 1) ∧ 49 + 1 = 50 := ⟨by decide +kernel, rfl⟩
theorem d_Se_leftAtWorst_50 : decode m_Se_leftAtWorst.2.1 50 = .ok (.iload 4, 2) ∧ 50 + 2 = 52 := ⟨by decide +kernel, rfl⟩
theorem d_Se_leftAtWorst_52 : decode m_Se_leftAtWorst.2.1 52 = .ok (.iload 7, 2) ∧ 52 + 2 = 54 := ⟨by decide +kernel, rfl⟩
theorem d_Se_leftAtWorst_54 : decode m_Se_leftAtWorst.2.1 54 = .ok (.iconst 1, 1) ∧ 54 + 1 = 55 := ⟨by decide +kernel, rfl⟩
theorem d_Se_leftAtWorst_55 : decode m_Se_leftAtWorst.2.1 55 = .ok (.if_icmp .ne 7, 3) ∧ 55 + 3 = 58 ∧ (((55 : Nat) : Int) + (7) = ((62 : Nat) : Int)) := ⟨by decide +kernel, rfl, by decide⟩
theorem d_Se_leftAtWorst_58 : decode m_Se_leftAtWorst.2.1 58 = .ok (.iconst 1, 1) ∧ 58 + 1 = 59 := ⟨by decide +kernel, rfl⟩
theorem d_Se_leftAtWorst_59 : decode m_Se_leftAtWorst.2.1 59 = .ok (.goto 4, 3) ∧ (((59 : Nat) : Int) + (4) = ((63 : Nat) : Int)) := ⟨by decide +kernel, by decide⟩
theorem d_Se_leftAtWorst_62 : decode m_Se_leftAtWorst.2.1 62 = .ok (.iconst 0, 1) ∧ 62 + 1 = 63 := ⟨by decide +kernel, rfl⟩
theorem d_Se_leftAtWorst_63 : decode m_Se_leftAtWorst.2.1 63 = .ok (.iadd, 1) ∧ 63 + 1 = 64 := ⟨by decide +kernel, rfl⟩
theorem d_Se_leftAtWorst_64 : decode m_Se_leftAtWorst.2.1 64 = .ok (.istore 4, 2) ∧ 64 + 2 = 66 := ⟨by decide +kernel, rfl⟩
theorem d_Se_leftAtWorst_66 : decode m_Se_leftAtWorst.2.1 66 = .ok (.iload 5, 2) ∧ 66 + 2 = 68 := ⟨by decide +kernel, rfl⟩
theorem d_Se_leftAtWorst_68 : decode m_Se_leftAtWorst.2.1 68 = .ok (.iload 7, 2) ∧ 68 + 2 = 70 := ⟨by decide +kernel, rfl⟩
theorem d_Se_leftAtWorst_70 : decode m_Se_leftAtWorst.2.1 70 = .ok (.iconst 2, 1) ∧ 70 + 1 = 71 := ⟨by decide +kernel, rfl⟩
theorem d_Se_leftAtWorst_71 : decode m_Se_leftAtWorst.2.1 71 = .ok (.if_icmp .ne 7, 3) ∧ 71 + 3 = 74 ∧ (((71 : Nat) : Int) + (7) = ((78 : Nat) : Int)) := ⟨by decide +kernel, rfl, by decide⟩
theorem d_Se_leftAtWorst_74 : decode m_Se_leftAtWorst.2.1 74 = .ok (.iconst 1, 1) ∧ 74 + 1 = 75 := ⟨by decide +kernel, rfl⟩
theorem d_Se_leftAtWorst_75 : decode m_Se_leftAtWorst.2.1 75 = .ok (.goto 4, 3) ∧ (((75 : Nat) : Int) + (4) = ((79 : Nat) : Int)) := ⟨by decide +kernel, by decide⟩
theorem d_Se_leftAtWorst_78 : decode m_Se_leftAtWorst.2.1 78 = .ok (.iconst 0, 1) ∧ 78 + 1 = 79 := ⟨by decide +kernel, rfl⟩
theorem d_Se_leftAtWorst_79 : decode m_Se_leftAtWorst.2.1 79 = .ok (.iadd, 1) ∧ 79 + 1 = 80 := ⟨by decide +kernel, rfl⟩
theorem d_Se_leftAtWorst_80 : decode m_Se_leftAtWorst.2.1 80 = .ok (.istore 5, 2) ∧ 80 + 2 = 82 := ⟨by decide +kernel, rfl⟩
theorem d_Se_leftAtWorst_82 : decode m_Se_leftAtWorst.2.1 82 = .ok (.iinc 6 1, 3) ∧ 82 + 3 = 85 := ⟨by decide +kernel, rfl⟩
theorem d_Se_leftAtWorst_85 : decode m_Se_leftAtWorst.2.1 85 = .ok (.goto (-74), 3) ∧ (((85 : Nat) : Int) + (-74) = ((11 : Nat) : Int)) := ⟨by decide +kernel, by decide⟩
theorem d_Se_leftAtWorst_88 : decode m_Se_leftAtWorst.2.1 88 = .ok (.iload_n 3, 1) ∧ 88 + 1 = 89 := ⟨by decide +kernel, rfl⟩
theorem d_Se_leftAtWorst_89 : decode m_Se_leftAtWorst.2.1 89 = .ok (.iload 4, 2) ∧ 89 + 2 = 91 := ⟨by decide +kernel, rfl⟩
theorem d_Se_leftAtWorst_91 : decode m_Se_leftAtWorst.2.1 91 = .ok (.iload 5, 2) ∧ 91 + 2 = 93 := ⟨by decide +kernel, rfl⟩
theorem d_Se_leftAtWorst_93 : decode m_Se_leftAtWorst.2.1 93 = .ok (.invokestatic 42, 3) ∧ 93 + 3 = 96 := ⟨by decide +kernel, rfl⟩
theorem d_Se_leftAtWorst_96 : decode m_Se_leftAtWorst.2.1 96 = .ok (.invokestatic 42, 3) ∧ 96 + 3 = 99 := ⟨by decide +kernel, rfl⟩
theorem d_Se_leftAtWorst_99 : decode m_Se_leftAtWorst.2.1 99 = .ok (.ireturn, 1) := by decide +kernel
theorem d_In_compare_0 : decode m_In_compare.2.1 0 = .ok (.iload_n 0, 1) ∧ 0 + 1 = 1 := ⟨by decide +kernel, rfl⟩
theorem d_In_compare_1 : decode m_In_compare.2.1 1 = .ok (.iload_n 1, 1) ∧ 1 + 1 = 2 := ⟨by decide +kernel, rfl⟩
theorem d_In_compare_2 : decode m_In_compare.2.1 2 = .ok (.if_icmp .ge 7, 3) ∧ 2 + 3 = 5 ∧ (((2 : Nat) : Int) + (7) = ((9 : Nat) : Int)) := ⟨by decide +kernel, rfl, by decide⟩
theorem d_In_compare_5 : decode m_In_compare.2.1 5 = .ok (.iconst (-1), 1) ∧ 5 + 1 = 6 := ⟨by decide +kernel, rfl⟩
theorem d_In_compare_6 : decode m_In_compare.2.1 6 = .ok (.goto 13, 3) ∧ (((6 : Nat) : Int) + (13) = ((19 : Nat) : Int)) := ⟨by decide +kernel, by decide⟩
theorem d_In_compare_9 : decode m_In_compare.2.1 9 = .ok (.iload_n 0, 1) ∧ 9 + 1 = 10 := ⟨by decide +kernel, rfl⟩
theorem d_In_compare_10 : decode m_In_compare.2.1 10 = .ok (.iload_n 1, 1) ∧ 10 + 1 = 11 := ⟨by decide +kernel, rfl⟩
theorem d_In_compare_11 : decode m_In_compare.2.1 11 = .ok (.if_icmp .ne 7, 3) ∧ 11 + 3 = 14 ∧ (((11 : Nat) : Int) + (7) = ((18 : Nat) : Int)) := ⟨by decide +kernel, rfl, by decide⟩
theorem d_In_compare_14 : decode m_In_compare.2.1 14 = .ok (.iconst 0, 1) ∧ 14 + 1 = 15 := ⟨by decide +kernel, rfl⟩
theorem d_In_compare_15 : decode m_In_compare.2.1 15 = .ok (.goto 4, 3) ∧ (((15 : Nat) : Int) + (4) = ((19 : Nat) : Int)) := ⟨by decide +kernel, by decide⟩
theorem d_In_compare_18 : decode m_In_compare.2.1 18 = .ok (.iconst 1, 1) ∧ 18 + 1 = 19 := ⟨by decide +kernel, rfl⟩
theorem d_In_compare_19 : decode m_In_compare.2.1 19 = .ok (.ireturn, 1) := by decide +kernel
theorem d_Lo_compare_0 : decode m_Lo_compare.2.1 0 = .ok (.lload_n 0, 1) ∧ 0 + 1 = 1 := ⟨by decide +kernel, rfl⟩
theorem d_Lo_compare_1 : decode m_Lo_compare.2.1 1 = .ok (.lload_n 2, 1) ∧ 1 + 1 = 2 := ⟨by decide +kernel, rfl⟩
theorem d_Lo_compare_2 : decode m_Lo_compare.2.1 2 = .ok (.lcmp, 1) ∧ 2 + 1 = 3 := ⟨by decide +kernel, rfl⟩
theorem d_Lo_compare_3 : decode m_Lo_compare.2.1 3 = .ok (.ifCond .ge 7, 3) ∧ 3 + 3 = 6 ∧ (((3 : Nat) : Int) + (7) = ((10 : Nat) : Int)) := ⟨by decide +kernel, rfl, by decide⟩
theorem d_Lo_compare_6 : decode m_Lo_compare.2.1 6 = .ok (.iconst (-1), 1) ∧ 6 + 1 = 7 := ⟨by decide +kernel, rfl⟩
theorem d_Lo_compare_7 : decode m_Lo_compare.2.1 7 = .ok (.goto 14, 3) ∧ (((7 : Nat) : Int) + (14) = ((21 : Nat) : Int)) := ⟨by decide +kernel, by decide⟩
theorem d_Lo_compare_10 : decode m_Lo_compare.2.1 10 = .ok (.lload_n 0, 1) ∧ 10 + 1 = 11 := ⟨by decide +kernel, rfl⟩
theorem d_Lo_compare_11 : decode m_Lo_compare.2.1 11 = .ok (.lload_n 2, 1) ∧ 11 + 1 = 12 := ⟨by decide +kernel, rfl⟩
theorem d_Lo_compare_12 : decode m_Lo_compare.2.1 12 = .ok (.lcmp, 1) ∧ 12 + 1 = 13 := ⟨by decide +kernel, rfl⟩
theorem d_Lo_compare_13 : decode m_Lo_compare.2.1 13 = .ok (.ifCond .ne 7, 3) ∧ 13 + 3 = 16 ∧ (((13 : Nat) : Int) + (7) = ((20 : Nat) : Int)) := ⟨by decide +kernel, rfl, by decide⟩
theorem d_Lo_compare_16 : decode m_Lo_compare.2.1 16 = .ok (.iconst 0, 1) ∧ 16 + 1 = 17 := ⟨by decide +kernel, rfl⟩
theorem d_Lo_compare_17 : decode m_Lo_compare.2.1 17 = .ok (.goto 4, 3) ∧ (((17 : Nat) : Int) + (4) = ((21 : Nat) : Int)) := ⟨by decide +kernel, by decide⟩
theorem d_Lo_compare_20 : decode m_Lo_compare.2.1 20 = .ok (.iconst 1, 1) ∧ 20 + 1 = 21 := ⟨by decide +kernel, rfl⟩
theorem d_Lo_compare_21 : decode m_Lo_compare.2.1 21 = .ok (.ireturn, 1) := by decide +kernel
theorem d_Ma_floorDiv_0 : decode m_Ma_floorDiv.2.1 0 = .ok (.lload_n 0, 1) ∧ 0 + 1 = 1 := ⟨by decide +kernel, rfl⟩
theorem d_Ma_floorDiv_1 : decode m_Ma_floorDiv.2.1 1 = .ok (.lload_n 2, 1) ∧ 1 + 1 = 2 := ⟨by decide +kernel, rfl⟩
theorem d_Ma_floorDiv_2 : decode m_Ma_floorDiv.2.1 2 = .ok (.ldiv, 1) ∧ 2 + 1 = 3 := ⟨by decide +kernel, rfl⟩
theorem d_Ma_floorDiv_3 : decode m_Ma_floorDiv.2.1 3 = .ok (.lstore 4, 2) ∧ 3 + 2 = 5 := ⟨by decide +kernel, rfl⟩
theorem d_Ma_floorDiv_5 : decode m_Ma_floorDiv.2.1 5 = .ok (.lload_n 0, 1) ∧ 5 + 1 = 6 := ⟨by decide +kernel, rfl⟩
theorem d_Ma_floorDiv_6 : decode m_Ma_floorDiv.2.1 6 = .ok (.lload_n 2, 1) ∧ 6 + 1 = 7 := ⟨by decide +kernel, rfl⟩
theorem d_Ma_floorDiv_7 : decode m_Ma_floorDiv.2.1 7 = .ok (.lxor, 1) ∧ 7 + 1 = 8 := ⟨by decide +kernel, rfl⟩
theorem d_Ma_floorDiv_8 : decode m_Ma_floorDiv.2.1 8 = .ok (.lconst 0, 1) ∧ 8 + 1 = 9 := ⟨by decide +kernel, rfl⟩
theorem d_Ma_floorDiv_9 : decode m_Ma_floorDiv.2.1 9 = .ok (.lcmp, 1) ∧ 9 + 1 = 10 := ⟨by decide +kernel, rfl⟩
theorem d_Ma_floorDiv_10 : decode m_Ma_floorDiv.2.1 10 = .ok (.ifCond .ge 17, 3) ∧ 10 + 3 = 13 ∧ (((10 : Nat) : Int) + (17) = ((27 : Nat) : Int)) := ⟨by decide +kernel, rfl, by decide⟩
theorem d_Ma_floorDiv_13 : decode m_Ma_floorDiv.2.1 13 = .ok (.lload 4, 2) ∧ 13 + 2 = 15 := ⟨by decide +kernel, rfl⟩
theorem d_Ma_floorDiv_15 : decode m_Ma_floorDiv.2.1 15 = .ok (.lload_n 2, 1) ∧ 15 + 1 = 16 := ⟨by decide +kernel, rfl⟩
theorem d_Ma_floorDiv_16 : decode m_Ma_floorDiv.2.1 16 = .ok (.lmul, 1) ∧ 16 + 1 = 17 := ⟨by decide +kernel, rfl⟩
theorem d_Ma_floorDiv_17 : decode m_Ma_floorDiv.2.1 17 = .ok (.lload_n 0, 1) ∧ 17 + 1 = 18 := ⟨by decide +kernel, rfl⟩
theorem d_Ma_floorDiv_18 : decode m_Ma_floorDiv.2.1 18 = .ok (.lcmp, 1) ∧ 18 + 1 = 19 := ⟨by decide +kernel, rfl⟩
theorem d_Ma_floorDiv_19 : decode m_Ma_floorDiv.2.1 19 = .ok (.ifCond .eq 8, 3) ∧ 19 + 3 = 22 ∧ (((19 : Nat) : Int) + (8) = ((27 : Nat) : Int)) := ⟨by decide +kernel, rfl, by decide⟩
theorem d_Ma_floorDiv_22 : decode m_Ma_floorDiv.2.1 22 = .ok (.lload 4, 2) ∧ 22 + 2 = 24 := ⟨by decide +kernel, rfl⟩
theorem d_Ma_floorDiv_24 : decode m_Ma_floorDiv.2.1 24 = .ok (.lconst 1, 1) ∧ 24 + 1 = 25 := ⟨by decide +kernel, rfl⟩
theorem d_Ma_floorDiv_25 : decode m_Ma_floorDiv.2.1 25 = .ok (.lsub, 1) ∧ 25 + 1 = 26 := ⟨by decide +kernel, rfl⟩
theorem d_Ma_floorDiv_26 : decode m_Ma_floorDiv.2.1 26 = .ok (.lreturn, 1) := by decide +kernel
theorem d_Ma_floorDiv_27 : decode m_Ma_floorDiv.2.1 27 = .ok (.lload 4, 2) ∧ 27 + 2 = 29 := ⟨by decide +kernel, rfl⟩
theorem d_Ma_floorDiv_29 : decode m_Ma_floorDiv.2.1 29 = .ok (.lreturn, 1) := by decide +kernel
theorem d_Ma_floorMod_0 : decode m_Ma_floorMod.2.1 0 = .ok (.iload_n 0, 1) ∧ 0 + 1 = 1 := ⟨by decide +kernel, rfl⟩
theorem d_Ma_floorMod_1 : decode m_Ma_floorMod.2.1 1 = .ok (.iload_n 1, 1) ∧ 1 + 1 = 2 := ⟨by decide +kernel, rfl⟩
theorem d_Ma_floorMod_2 : decode m_Ma_floorMod.2.1 2 = .ok (.irem, 1) ∧ 2 + 1 = 3 := ⟨by decide +kernel, rfl⟩
theorem d_Ma_floorMod_3 : decode m_Ma_floorMod.2.1 3 = .ok (.istore_n 2, 1) ∧ 3 + 1 = 4 := ⟨by decide +kernel, rfl⟩
theorem d_Ma_floorMod_4 : decode m_Ma_floorMod.2.1 4 = .ok (.iload_n 0, 1) ∧ 4 + 1 = 5 := ⟨by decide +kernel, rfl⟩
theorem d_Ma_floorMod_5 : decode m_Ma_floorMod.2.1 5 = .ok (.iload_n 1, 1) ∧ 5 + 1 = 6 := ⟨by decide +kernel, rfl⟩
theorem d_Ma_floorMod_6 : decode m_Ma_floorMod.2.1 6 = .ok (.ixor, 1) ∧ 6 + 1 = 7 := ⟨by decide +kernel, rfl⟩
theorem d_Ma_floorMod_7 : decode m_Ma_floorMod.2.1 7 = .ok (.ifCond .ge 11, 3) ∧ 7 + 3 = 10 ∧ (((7 : Nat) : Int) + (11) = ((18 : Nat) : Int)) := ⟨by decide +kernel, rfl, by decide⟩
theorem d_Ma_floorMod_10 : decode m_Ma_floorMod.2.1 10 = .ok (.iload_n 2, 1) ∧ 10 + 1 = 11 := ⟨by decide +kernel, rfl⟩
theorem d_Ma_floorMod_11 : decode m_Ma_floorMod.2.1 11 = .ok (.ifCond .eq 7, 3) ∧ 11 + 3 = 14 ∧ (((11 : Nat) : Int) + (7) = ((18 : Nat) : Int)) := ⟨by decide +kernel, rfl, by decide⟩
theorem d_Ma_floorMod_14 : decode m_Ma_floorMod.2.1 14 = .ok (.iload_n 2, 1) ∧ 14 + 1 = 15 := ⟨by decide +kernel, rfl⟩
theorem d_Ma_floorMod_15 : decode m_Ma_floorMod.2.1 15 = .ok (.iload_n 1, 1) ∧ 15 + 1 = 16 := ⟨by decide +kernel, rfl⟩
theorem d_Ma_floorMod_16 : decode m_Ma_floorMod.2.1 16 = .ok (.iadd, 1) ∧ 16 + 1 = 17 := ⟨by decide +kernel, rfl⟩
theorem d_Ma_floorMod_17 : decode m_Ma_floorMod.2.1 17 = .ok (.ireturn, 1) := by decide +kernel
theorem d_Ma_floorMod_18 : decode m_Ma_floorMod.2.1 18 = .ok (.iload_n 2, 1) ∧ 18 + 1 = 19 := ⟨by decide +kernel, rfl⟩
theorem d_Ma_floorMod_19 : decode m_Ma_floorMod.2.1 19 = .ok (.ireturn, 1) := by decide +kernel
theorem d_Ma_max_0 : decode m_Ma_max.2.1 0 = .ok (.iload_n 0, 1) ∧ 0 + 1 = 1 := ⟨by decide +kernel, rfl⟩
theorem d_Ma_max_1 : decode m_Ma_max.2.1 1 = .ok (.iload_n 1, 1) ∧ 1 + 1 = 2 := ⟨by decide +kernel, rfl⟩
theorem d_Ma_max_2 : decode m_Ma_max.2.1 2 = .ok (.if_icmp .lt 7, 3) ∧ 2 + 3 = 5 ∧ (((2 : Nat) : Int) + (7) = ((9 : Nat) : Int)) := ⟨by decide +kernel, rfl, by decide⟩
theorem d_Ma_max_5 : decode m_Ma_max.2.1 5 = .ok (.iload_n 0, 1) ∧ 5 + 1 = 6 := ⟨by decide +kernel, rfl⟩
theorem d_Ma_max_6 : decode m_Ma_max.2.1 6 = .ok (.goto 4, 3) ∧ (((6 : Nat) : Int) + (4) = ((10 : Nat) : Int)) := ⟨by decide +kernel, by decide⟩
theorem d_Ma_max_9 : decode m_Ma_max.2.1 9 = .ok (.iload_n 1, 1) ∧ 9 + 1 = 10 := ⟨by decide +kernel, rfl⟩
theorem d_Ma_max_10 : decode m_Ma_max.2.1 10 = .ok (.ireturn, 1) := by decide +kernel
theorem d_Ma_min_0 : decode m_Ma_min.2.1 0 = .ok (.iload_n 0, 1) ∧ 0 + 1 = 1 := ⟨by decide +kernel, rfl⟩
theorem d_Ma_min_1 : decode m_Ma_min.2.1 1 = .ok (.iload_n 1, 1) ∧ 1 + 1 = 2 := ⟨by decide +kernel, rfl⟩
theorem d_Ma_min_2 : decode m_Ma_min.2.1 2 = .ok (.if_icmp .gt 7, 3) ∧ 2 + 3 = 5 ∧ (((2 : Nat) : Int) + (7) = ((9 : Nat) : Int)) := ⟨by decide +kernel, rfl, by decide⟩
theorem d_Ma_min_5 : decode m_Ma_min.2.1 5 = .ok (.iload_n 0, 1) ∧ 5 + 1 = 6 := ⟨by decide +kernel, rfl⟩
theorem d_Ma_min_6 : decode m_Ma_min.2.1 6 = .ok (.goto 4, 3) ∧ (((6 : Nat) : Int) + (4) = ((10 : Nat) : Int)) := ⟨by decide +kernel, by decide⟩
theorem d_Ma_min_9 : decode m_Ma_min.2.1 9 = .ok (.iload_n 1, 1) ∧ 9 + 1 = 10 := ⟨by decide +kernel, rfl⟩
theorem d_Ma_min_10 : decode m_Ma_min.2.1 10 = .ok (.ireturn, 1) := by decide +kernel
