/-! constructors of the stacks and of the whole -/
def wSt_31 (mem : zMem) : zMem := (zup (wRo (zupA (zup (wRo (zupA (zup (wRo (zupA (zup (wRo (zupA (zup (wRo (zupA (zup (wRo (zupA (zup (wRo (zupA (zup (wRo (zupA (zup (wRo (zupA (zup (wRo (zupA (zup (wRo (zupA (zup (wRo (zupA (zup (zupA (zup (zupA (zup (zupA (zup (zupA (zup (zupA (zup (zupA (zup (zupA (zup (zup (zup (zup (zupA mem 32 (fun _ => -1)) 31 0 32) 31 1 0) 31 2 0) 31 3 0) 33 (fun _ => 0)) 31 4 33) 34 (fun _ => 0)) 31 5 34) 35 (fun _ => 0)) 31 6 35) 36 (fun _ => 0)) 31 7 36) 37 (fun _ => 0)) 31 8 37) 38 (fun _ => 0)) 31 9 38) 39 (fun _ => 0)) 31 10 39) 40 (zblk 6)) 40) 32 0 40) 41 (zblk 6)) 41) 32 1 41) 42 (zblk 6)) 42) 32 2 42) 43 (zblk 6)) 43) 32 3 43) 44 (zblk 6)) 44) 32 4 44) 45 (zblk 6)) 45) 32 5 45) 46 (zblk 6)) 46) 32 6 46) 47 (zblk 6)) 47) 32 7 47) 48 (zblk 6)) 48) 32 8 48) 49 (zblk 6)) 49) 32 9 49) 50 (zblk 6)) 50) 32 10 50) 51 (zblk 6)) 51) 32 11 51)
theorem i_St_31 (mem : zMem) : zSp m_St_init [(2, 31)] (zSH.take 32) mem (fun r sh m => r = none ∧ sh = zSH.take 52 ∧ m = wSt_31 mem) := by
  refine zSp_of (by decide) (Nat.le_of_ble_eq_true rfl) ?_
  show zV zT m_St_init (zSH.take 32) (0, 0) 0 [some (2, 31), none] [] mem _
  refine zV_aload_n d_St_init_0 rfl ?_
  refine zV_obj d_St_init_1 l_St_3 zo_inst zo_code rfl (by decide) rfl ⟨by decide, by decide⟩ ?_
  refine zV_aload_n d_St_init_4 rfl ?_
  refine zV_bipush d_St_init_5 ?_
  refine zV_anew (kd := 16) (m9 := 12) (nI := 32) "CellPlane$Root" (Or.inr ⟨rfl, rfl⟩) d_St_init_7 c_St_9.2.1 ⟨rfl, rfl⟩ rfl ⟨by decide, by decide⟩ ?_
  show zV zT m_St_init (zSH.take 33) (1, 12) 10 [some (2, 31), none] [(2, 32), (2, 31)] _ _
  refine zV_putF d_St_init_10 f_St_11 rfl ⟨rfl, rfl, rfl⟩ ?_
  refine zV_aload_n d_St_init_13 rfl ?_
  refine zV_iconst d_St_init_14 ?_
  refine zV_puti d_St_init_15 f_St_17 rfl ⟨rfl, rfl⟩ ?_
  refine zV_aload_n d_St_init_18 rfl ?_
  refine zV_iconst d_St_init_19 ?_
  refine zV_puti d_St_init_20 f_St_21 rfl ⟨rfl, rfl⟩ ?_
  refine zV_aload_n d_St_init_23 rfl ?_
  refine zV_iconst d_St_init_24 ?_
  refine zV_puti d_St_init_25 f_St_24 rfl ⟨rfl, rfl⟩ ?_
  refine zV_aload_n d_St_init_28 rfl ?_
  refine zV_bipush d_St_init_29 ?_
  refine zV_newa (kd := 12) (m9 := 25) (nI := 33) .int .int (Or.inl ⟨rfl, rfl, rfl⟩) d_St_init_31 zw_int ⟨rfl, rfl⟩ rfl ⟨by decide, by decide⟩ ?_
  show zV zT m_St_init (zSH.take 34) (2, 37) 33 [some (2, 31), none] [(2, 33), (2, 31)] _ _
  refine zV_putF d_St_init_33 f_St_27 rfl ⟨rfl, rfl, rfl⟩ ?_
  refine zV_aload_n d_St_init_36 rfl ?_
  refine zV_bipush d_St_init_37 ?_
  refine zV_newa (kd := 12) (m9 := 100) (nI := 34) .int .int (Or.inl ⟨rfl, rfl, rfl⟩) d_St_init_39 zw_int ⟨rfl, rfl⟩ rfl ⟨by decide, by decide⟩ ?_
  show zV zT m_St_init (zSH.take 35) (3, 137) 41 [some (2, 31), none] [(2, 34), (2, 31)] _ _
  refine zV_putF d_St_init_41 f_St_31 rfl ⟨rfl, rfl, rfl⟩ ?_
  refine zV_aload_n d_St_init_44 rfl ?_
  refine zV_iconst d_St_init_45 ?_
  refine zV_newa (kd := 14) (m9 := 4) (nI := 35) .boolean .boolean (Or.inr (Or.inr ⟨rfl, rfl, rfl⟩)) d_St_init_46 zw_boolean ⟨rfl, rfl⟩ rfl ⟨by decide, by decide⟩ ?_
  show zV zT m_St_init (zSH.take 36) (4, 141) 48 [some (2, 31), none] [(2, 35), (2, 31)] _ _
  refine zV_putF d_St_init_48 f_St_34 rfl ⟨rfl, rfl, rfl⟩ ?_
  refine zV_aload_n d_St_init_51 rfl ?_
  refine zV_iconst d_St_init_52 ?_
  refine zV_newa (kd := 12) (m9 := 4) (nI := 36) .int .int (Or.inl ⟨rfl, rfl, rfl⟩) d_St_init_53 zw_int ⟨rfl, rfl⟩ rfl ⟨by decide, by decide⟩ ?_
  show zV zT m_St_init (zSH.take 37) (5, 145) 55 [some (2, 31), none] [(2, 36), (2, 31)] _ _
  refine zV_putF d_St_init_55 f_St_38 rfl ⟨rfl, rfl, rfl⟩ ?_
  refine zV_aload_n d_St_init_58 rfl ?_
  refine zV_iconst d_St_init_59 ?_
  refine zV_newa (kd := 12) (m9 := 4) (nI := 37) .int .int (Or.inl ⟨rfl, rfl, rfl⟩) d_St_init_60 zw_int ⟨rfl, rfl⟩ rfl ⟨by decide, by decide⟩ ?_
  show zV zT m_St_init (zSH.take 38) (6, 149) 62 [some (2, 31), none] [(2, 37), (2, 31)] _ _
  refine zV_putF d_St_init_62 f_St_41 rfl ⟨rfl, rfl, rfl⟩ ?_
  refine zV_aload_n d_St_init_65 rfl ?_
  refine zV_iconst d_St_init_66 ?_
  refine zV_newa (kd := 12) (m9 := 4) (nI := 38) .int .int (Or.inl ⟨rfl, rfl, rfl⟩) d_St_init_67 zw_int ⟨rfl, rfl⟩ rfl ⟨by decide, by decide⟩ ?_
  show zV zT m_St_init (zSH.take 39) (7, 153) 69 [some (2, 31), none] [(2, 38), (2, 31)] _ _
  refine zV_putF d_St_init_69 f_St_44 rfl ⟨rfl, rfl, rfl⟩ ?_
  refine zV_aload_n d_St_init_72 rfl ?_
  refine zV_bipush d_St_init_73 ?_
  refine zV_newa (kd := 12) (m9 := 16) (nI := 39) .int .int (Or.inl ⟨rfl, rfl, rfl⟩) d_St_init_75 zw_int ⟨rfl, rfl⟩ rfl ⟨by decide, by decide⟩ ?_
  show zV zT m_St_init (zSH.take 40) (8, 169) 77 [some (2, 31), none] [(2, 39), (2, 31)] _ _
  refine zV_putF d_St_init_77 f_St_47 rfl ⟨rfl, rfl, rfl⟩ ?_
  refine zV_iconst d_St_init_80 ?_
  refine zV_istore_n (L' := [some (2, 31), some (0, 0)]) d_St_init_81 (by decide) rfl ?_
  refine zV_iload_n d_St_init_82 rfl ?_
  refine zV_bipush d_St_init_83 ?_
  refine zV_icmp_ge d_St_init_85 ⟨by decide, by decide⟩ ⟨by decide, by decide⟩ (fun z => absurd z (by decide)) (fun _ => ?_)
  refine zV_aload_n d_St_init_88 rfl ?_
  refine zV_getf d_St_init_89 f_St_11 rfl ?_
  show zV zT m_St_init (zSH.take 40) (8, 169) 92 [some (2, 31), some (0, 0)] [(2, 32)] _ _
  refine zV_iload_n d_St_init_92 rfl ?_
  refine zV_new (nI := 40) d_St_init_93 c_St_9 rfl ⟨by decide, by decide⟩ ?_
  show zV zT m_St_init (zSH.take 41) (9, 173) 96 [some (2, 31), some (0, 0)] [(2, 40), (0, 0), (2, 32)] _ _
  refine zV_dup d_St_init_96 (by decide) ?_
  refine zV_invi m_Ro_init [] d_St_init_97 (Or.inr (List.mem_of_getElem? (i := 3) rfl)) k_Ro_init rfl (by decide) rfl rfl rfl rfl (i_Ro _ _ 40 rfl) (fun r9 sh9 m9 hq9 => ?_)
  obtain ⟨rfl, rfl, rfl⟩ := hq9
  show zV zT m_St_init (zSH.take 41) (9, 173) 100 [some (2, 31), some (0, 0)] [(2, 40), (0, 0), (2, 32)] _ _
  refine zV_aast (m9 := 12) (m8 := 0) (ck := 6) 16 4 (Or.inr ⟨rfl, rfl, rfl⟩) d_St_init_100 rfl rfl ⟨by decide, by decide⟩ rfl ?_
  refine zV_iinc (L' := [some (2, 31), some (0, 1)]) d_St_init_101 (by decide) rfl rfl ?_
  refine zV_goto d_St_init_104 ?_
  refine zV_iload_n d_St_init_82 rfl ?_
  refine zV_bipush d_St_init_83 ?_
  refine zV_icmp_ge d_St_init_85 ⟨by decide, by decide⟩ ⟨by decide, by decide⟩ (fun z => absurd z (by decide)) (fun _ => ?_)
  refine zV_aload_n d_St_init_88 rfl ?_
  refine zV_getf d_St_init_89 f_St_11 rfl ?_
  show zV zT m_St_init (zSH.take 41) (9, 173) 92 [some (2, 31), some (0, 1)] [(2, 32)] _ _
  refine zV_iload_n d_St_init_92 rfl ?_
  refine zV_new (nI := 41) d_St_init_93 c_St_9 rfl ⟨by decide, by decide⟩ ?_
  show zV zT m_St_init (zSH.take 42) (10, 177) 96 [some (2, 31), some (0, 1)] [(2, 41), (0, 1), (2, 32)] _ _
  refine zV_dup d_St_init_96 (by decide) ?_
  refine zV_invi m_Ro_init [] d_St_init_97 (Or.inr (List.mem_of_getElem? (i := 3) rfl)) k_Ro_init rfl (by decide) rfl rfl rfl rfl (i_Ro _ _ 41 rfl) (fun r9 sh9 m9 hq9 => ?_)
  obtain ⟨rfl, rfl, rfl⟩ := hq9
  show zV zT m_St_init (zSH.take 42) (10, 177) 100 [some (2, 31), some (0, 1)] [(2, 41), (0, 1), (2, 32)] _ _
  refine zV_aast (m9 := 12) (m8 := 0) (ck := 6) 16 4 (Or.inr ⟨rfl, rfl, rfl⟩) d_St_init_100 rfl rfl ⟨by decide, by decide⟩ rfl ?_
  refine zV_iinc (L' := [some (2, 31), some (0, 2)]) d_St_init_101 (by decide) rfl rfl ?_
  refine zV_goto d_St_init_104 ?_
  refine zV_iload_n d_St_init_82 rfl ?_
  refine zV_bipush d_St_init_83 ?_
  refine zV_icmp_ge d_St_init_85 ⟨by decide, by decide⟩ ⟨by decide, by decide⟩ (fun z => absurd z (by decide)) (fun _ => ?_)
  refine zV_aload_n d_St_init_88 rfl ?_
  refine zV_getf d_St_init_89 f_St_11 rfl ?_
  show zV zT m_St_init (zSH.take 42) (10, 177) 92 [some (2, 31), some (0, 2)] [(2, 32)] _ _
  refine zV_iload_n d_St_init_92 rfl ?_
  refine zV_new (nI := 42) d_St_init_93 c_St_9 rfl ⟨by decide, by decide⟩ ?_
  show zV zT m_St_init (zSH.take 43) (11, 181) 96 [some (2, 31), some (0, 2)] [(2, 42), (0, 2), (2, 32)] _ _
  refine zV_dup d_St_init_96 (by decide) ?_
  refine zV_invi m_Ro_init [] d_St_init_97 (Or.inr (List.mem_of_getElem? (i := 3) rfl)) k_Ro_init rfl (by decide) rfl rfl rfl rfl (i_Ro _ _ 42 rfl) (fun r9 sh9 m9 hq9 => ?_)
  obtain ⟨rfl, rfl, rfl⟩ := hq9
  show zV zT m_St_init (zSH.take 43) (11, 181) 100 [some (2, 31), some (0, 2)] [(2, 42), (0, 2), (2, 32)] _ _
  refine zV_aast (m9 := 12) (m8 := 0) (ck := 6) 16 4 (Or.inr ⟨rfl, rfl, rfl⟩) d_St_init_100 rfl rfl ⟨by decide, by decide⟩ rfl ?_
  refine zV_iinc (L' := [some (2, 31), some (0, 3)]) d_St_init_101 (by decide) rfl rfl ?_
  refine zV_goto d_St_init_104 ?_
  refine zV_iload_n d_St_init_82 rfl ?_
  refine zV_bipush d_St_init_83 ?_
  refine zV_icmp_ge d_St_init_85 ⟨by decide, by decide⟩ ⟨by decide, by decide⟩ (fun z => absurd z (by decide)) (fun _ => ?_)
  refine zV_aload_n d_St_init_88 rfl ?_
  refine zV_getf d_St_init_89 f_St_11 rfl ?_
  show zV zT m_St_init (zSH.take 43) (11, 181) 92 [some (2, 31), some (0, 3)] [(2, 32)] _ _
  refine zV_iload_n d_St_init_92 rfl ?_
  refine zV_new (nI := 43) d_St_init_93 c_St_9 rfl ⟨by decide, by decide⟩ ?_
  show zV zT m_St_init (zSH.take 44) (12, 185) 96 [some (2, 31), some (0, 3)] [(2, 43), (0, 3), (2, 32)] _ _
  refine zV_dup d_St_init_96 (by decide) ?_
  refine zV_invi m_Ro_init [] d_St_init_97 (Or.inr (List.mem_of_getElem? (i := 3) rfl)) k_Ro_init rfl (by decide) rfl rfl rfl rfl (i_Ro _ _ 43 rfl) (fun r9 sh9 m9 hq9 => ?_)
  obtain ⟨rfl, rfl, rfl⟩ := hq9
  show zV zT m_St_init (zSH.take 44) (12, 185) 100 [some (2, 31), some (0, 3)] [(2, 43), (0, 3), (2, 32)] _ _
  refine zV_aast (m9 := 12) (m8 := 0) (ck := 6) 16 4 (Or.inr ⟨rfl, rfl, rfl⟩) d_St_init_100 rfl rfl ⟨by decide, by decide⟩ rfl ?_
  refine zV_iinc (L' := [some (2, 31), some (0, 4)]) d_St_init_101 (by decide) rfl rfl ?_
  refine zV_goto d_St_init_104 ?_
  refine zV_iload_n d_St_init_82 rfl ?_
  refine zV_bipush d_St_init_83 ?_
  refine zV_icmp_ge d_St_init_85 ⟨by decide, by decide⟩ ⟨by decide, by decide⟩ (fun z => absurd z (by decide)) (fun _ => ?_)
  refine zV_aload_n d_St_init_88 rfl ?_
  refine zV_getf d_St_init_89 f_St_11 rfl ?_
  show zV zT m_St_init (zSH.take 44) (12, 185) 92 [some (2, 31), some (0, 4)] [(2, 32)] _ _
  refine zV_iload_n d_St_init_92 rfl ?_
  refine zV_new (nI := 44) d_St_init_93 c_St_9 rfl ⟨by decide, by decide⟩ ?_
  show zV zT m_St_init (zSH.take 45) (13, 189) 96 [some (2, 31), some (0, 4)] [(2, 44), (0, 4), (2, 32)] _ _
  refine zV_dup d_St_init_96 (by decide) ?_
  refine zV_invi m_Ro_init [] d_St_init_97 (Or.inr (List.mem_of_getElem? (i := 3) rfl)) k_Ro_init rfl (by decide) rfl rfl rfl rfl (i_Ro _ _ 44 rfl) (fun r9 sh9 m9 hq9 => ?_)
  obtain ⟨rfl, rfl, rfl⟩ := hq9
  show zV zT m_St_init (zSH.take 45) (13, 189) 100 [some (2, 31), some (0, 4)] [(2, 44), (0, 4), (2, 32)] _ _
  refine zV_aast (m9 := 12) (m8 := 0) (ck := 6) 16 4 (Or.inr ⟨rfl, rfl, rfl⟩) d_St_init_100 rfl rfl ⟨by decide, by decide⟩ rfl ?_
  refine zV_iinc (L' := [some (2, 31), some (0, 5)]) d_St_init_101 (by decide) rfl rfl ?_
  refine zV_goto d_St_init_104 ?_
  refine zV_iload_n d_St_init_82 rfl ?_
  refine zV_bipush d_St_init_83 ?_
  refine zV_icmp_ge d_St_init_85 ⟨by decide, by decide⟩ ⟨by decide, by decide⟩ (fun z => absurd z (by decide)) (fun _ => ?_)
  refine zV_aload_n d_St_init_88 rfl ?_
  refine zV_getf d_St_init_89 f_St_11 rfl ?_
  show zV zT m_St_init (zSH.take 45) (13, 189) 92 [some (2, 31), some (0, 5)] [(2, 32)] _ _
  refine zV_iload_n d_St_init_92 rfl ?_
  refine zV_new (nI := 45) d_St_init_93 c_St_9 rfl ⟨by decide, by decide⟩ ?_
  show zV zT m_St_init (zSH.take 46) (14, 193) 96 [some (2, 31), some (0, 5)] [(2, 45), (0, 5), (2, 32)] _ _
  refine zV_dup d_St_init_96 (by decide) ?_
  refine zV_invi m_Ro_init [] d_St_init_97 (Or.inr (List.mem_of_getElem? (i := 3) rfl)) k_Ro_init rfl (by decide) rfl rfl rfl rfl (i_Ro _ _ 45 rfl) (fun r9 sh9 m9 hq9 => ?_)
  obtain ⟨rfl, rfl, rfl⟩ := hq9
  show zV zT m_St_init (zSH.take 46) (14, 193) 100 [some (2, 31), some (0, 5)] [(2, 45), (0, 5), (2, 32)] _ _
  refine zV_aast (m9 := 12) (m8 := 0) (ck := 6) 16 4 (Or.inr ⟨rfl, rfl, rfl⟩) d_St_init_100 rfl rfl ⟨by decide, by decide⟩ rfl ?_
  refine zV_iinc (L' := [some (2, 31), some (0, 6)]) d_St_init_101 (by decide) rfl rfl ?_
  refine zV_goto d_St_init_104 ?_
  refine zV_iload_n d_St_init_82 rfl ?_
  refine zV_bipush d_St_init_83 ?_
  refine zV_icmp_ge d_St_init_85 ⟨by decide, by decide⟩ ⟨by decide, by decide⟩ (fun z => absurd z (by decide)) (fun _ => ?_)
  refine zV_aload_n d_St_init_88 rfl ?_
  refine zV_getf d_St_init_89 f_St_11 rfl ?_
  show zV zT m_St_init (zSH.take 46) (14, 193) 92 [some (2, 31), some (0, 6)] [(2, 32)] _ _
  refine zV_iload_n d_St_init_92 rfl ?_
  refine zV_new (nI := 46) d_St_init_93 c_St_9 rfl ⟨by decide, by decide⟩ ?_
  show zV zT m_St_init (zSH.take 47) (15, 197) 96 [some (2, 31), some (0, 6)] [(2, 46), (0, 6), (2, 32)] _ _
  refine zV_dup d_St_init_96 (by decide) ?_
  refine zV_invi m_Ro_init [] d_St_init_97 (Or.inr (List.mem_of_getElem? (i := 3) rfl)) k_Ro_init rfl (by decide) rfl rfl rfl rfl (i_Ro _ _ 46 rfl) (fun r9 sh9 m9 hq9 => ?_)
  obtain ⟨rfl, rfl, rfl⟩ := hq9
  show zV zT m_St_init (zSH.take 47) (15, 197) 100 [some (2, 31), some (0, 6)] [(2, 46), (0, 6), (2, 32)] _ _
  refine zV_aast (m9 := 12) (m8 := 0) (ck := 6) 16 4 (Or.inr ⟨rfl, rfl, rfl⟩) d_St_init_100 rfl rfl ⟨by decide, by decide⟩ rfl ?_
  refine zV_iinc (L' := [some (2, 31), some (0, 7)]) d_St_init_101 (by decide) rfl rfl ?_
  refine zV_goto d_St_init_104 ?_
  refine zV_iload_n d_St_init_82 rfl ?_
  refine zV_bipush d_St_init_83 ?_
  refine zV_icmp_ge d_St_init_85 ⟨by decide, by decide⟩ ⟨by decide, by decide⟩ (fun z => absurd z (by decide)) (fun _ => ?_)
  refine zV_aload_n d_St_init_88 rfl ?_
  refine zV_getf d_St_init_89 f_St_11 rfl ?_
  show zV zT m_St_init (zSH.take 47) (15, 197) 92 [some (2, 31), some (0, 7)] [(2, 32)] _ _
  refine zV_iload_n d_St_init_92 rfl ?_
  refine zV_new (nI := 47) d_St_init_93 c_St_9 rfl ⟨by decide, by decide⟩ ?_
  show zV zT m_St_init (zSH.take 48) (16, 201) 96 [some (2, 31), some (0, 7)] [(2, 47), (0, 7), (2, 32)] _ _
  refine zV_dup d_St_init_96 (by decide) ?_
  refine zV_invi m_Ro_init [] d_St_init_97 (Or.inr (List.mem_of_getElem? (i := 3) rfl)) k_Ro_init rfl (by decide) rfl rfl rfl rfl (i_Ro _ _ 47 rfl) (fun r9 sh9 m9 hq9 => ?_)
  obtain ⟨rfl, rfl, rfl⟩ := hq9
  show zV zT m_St_init (zSH.take 48) (16, 201) 100 [some (2, 31), some (0, 7)] [(2, 47), (0, 7), (2, 32)] _ _
  refine zV_aast (m9 := 12) (m8 := 0) (ck := 6) 16 4 (Or.inr ⟨rfl, rfl, rfl⟩) d_St_init_100 rfl rfl ⟨by decide, by decide⟩ rfl ?_
  refine zV_iinc (L' := [some (2, 31), some (0, 8)]) d_St_init_101 (by decide) rfl rfl ?_
  refine zV_goto d_St_init_104 ?_
  refine zV_iload_n d_St_init_82 rfl ?_
  refine zV_bipush d_St_init_83 ?_
  refine zV_icmp_ge d_St_init_85 ⟨by decide, by decide⟩ ⟨by decide, by decide⟩ (fun z => absurd z (by decide)) (fun _ => ?_)
  refine zV_aload_n d_St_init_88 rfl ?_
  refine zV_getf d_St_init_89 f_St_11 rfl ?_
  show zV zT m_St_init (zSH.take 48) (16, 201) 92 [some (2, 31), some (0, 8)] [(2, 32)] _ _
  refine zV_iload_n d_St_init_92 rfl ?_
  refine zV_new (nI := 48) d_St_init_93 c_St_9 rfl ⟨by decide, by decide⟩ ?_
  show zV zT m_St_init (zSH.take 49) (17, 205) 96 [some (2, 31), some (0, 8)] [(2, 48), (0, 8), (2, 32)] _ _
  refine zV_dup d_St_init_96 (by decide) ?_
  refine zV_invi m_Ro_init [] d_St_init_97 (Or.inr (List.mem_of_getElem? (i := 3) rfl)) k_Ro_init rfl (by decide) rfl rfl rfl rfl (i_Ro _ _ 48 rfl) (fun r9 sh9 m9 hq9 => ?_)
  obtain ⟨rfl, rfl, rfl⟩ := hq9
  show zV zT m_St_init (zSH.take 49) (17, 205) 100 [some (2, 31), some (0, 8)] [(2, 48), (0, 8), (2, 32)] _ _
  refine zV_aast (m9 := 12) (m8 := 0) (ck := 6) 16 4 (Or.inr ⟨rfl, rfl, rfl⟩) d_St_init_100 rfl rfl ⟨by decide, by decide⟩ rfl ?_
  refine zV_iinc (L' := [some (2, 31), some (0, 9)]) d_St_init_101 (by decide) rfl rfl ?_
  refine zV_goto d_St_init_104 ?_
  refine zV_iload_n d_St_init_82 rfl ?_
  refine zV_bipush d_St_init_83 ?_
  refine zV_icmp_ge d_St_init_85 ⟨by decide, by decide⟩ ⟨by decide, by decide⟩ (fun z => absurd z (by decide)) (fun _ => ?_)
  refine zV_aload_n d_St_init_88 rfl ?_
  refine zV_getf d_St_init_89 f_St_11 rfl ?_
  show zV zT m_St_init (zSH.take 49) (17, 205) 92 [some (2, 31), some (0, 9)] [(2, 32)] _ _
  refine zV_iload_n d_St_init_92 rfl ?_
  refine zV_new (nI := 49) d_St_init_93 c_St_9 rfl ⟨by decide, by decide⟩ ?_
  show zV zT m_St_init (zSH.take 50) (18, 209) 96 [some (2, 31), some (0, 9)] [(2, 49), (0, 9), (2, 32)] _ _
  refine zV_dup d_St_init_96 (by decide) ?_
  refine zV_invi m_Ro_init [] d_St_init_97 (Or.inr (List.mem_of_getElem? (i := 3) rfl)) k_Ro_init rfl (by decide) rfl rfl rfl rfl (i_Ro _ _ 49 rfl) (fun r9 sh9 m9 hq9 => ?_)
  obtain ⟨rfl, rfl, rfl⟩ := hq9
  show zV zT m_St_init (zSH.take 50) (18, 209) 100 [some (2, 31), some (0, 9)] [(2, 49), (0, 9), (2, 32)] _ _
  refine zV_aast (m9 := 12) (m8 := 0) (ck := 6) 16 4 (Or.inr ⟨rfl, rfl, rfl⟩) d_St_init_100 rfl rfl ⟨by decide, by decide⟩ rfl ?_
  refine zV_iinc (L' := [some (2, 31), some (0, 10)]) d_St_init_101 (by decide) rfl rfl ?_
  refine zV_goto d_St_init_104 ?_
  refine zV_iload_n d_St_init_82 rfl ?_
  refine zV_bipush d_St_init_83 ?_
  refine zV_icmp_ge d_St_init_85 ⟨by decide, by decide⟩ ⟨by decide, by decide⟩ (fun z => absurd z (by decide)) (fun _ => ?_)
  refine zV_aload_n d_St_init_88 rfl ?_
  refine zV_getf d_St_init_89 f_St_11 rfl ?_
  show zV zT m_St_init (zSH.take 50) (18, 209) 92 [some (2, 31), some (0, 10)] [(2, 32)] _ _
  refine zV_iload_n d_St_init_92 rfl ?_
  refine zV_new (nI := 50) d_St_init_93 c_St_9 rfl ⟨by decide, by decide⟩ ?_
  show zV zT m_St_init (zSH.take 51) (19, 213) 96 [some (2, 31), some (0, 10)] [(2, 50), (0, 10), (2, 32)] _ _
  refine zV_dup d_St_init_96 (by decide) ?_
  refine zV_invi m_Ro_init [] d_St_init_97 (Or.inr (List.mem_of_getElem? (i := 3) rfl)) k_Ro_init rfl (by decide) rfl rfl rfl rfl (i_Ro _ _ 50 rfl) (fun r9 sh9 m9 hq9 => ?_)
  obtain ⟨rfl, rfl, rfl⟩ := hq9
  show zV zT m_St_init (zSH.take 51) (19, 213) 100 [some (2, 31), some (0, 10)] [(2, 50), (0, 10), (2, 32)] _ _
  refine zV_aast (m9 := 12) (m8 := 0) (ck := 6) 16 4 (Or.inr ⟨rfl, rfl, rfl⟩) d_St_init_100 rfl rfl ⟨by decide, by decide⟩ rfl ?_
  refine zV_iinc (L' := [some (2, 31), some (0, 11)]) d_St_init_101 (by decide) rfl rfl ?_
  refine zV_goto d_St_init_104 ?_
  refine zV_iload_n d_St_init_82 rfl ?_
  refine zV_bipush d_St_init_83 ?_
  refine zV_icmp_ge d_St_init_85 ⟨by decide, by decide⟩ ⟨by decide, by decide⟩ (fun z => absurd z (by decide)) (fun _ => ?_)
  refine zV_aload_n d_St_init_88 rfl ?_
  refine zV_getf d_St_init_89 f_St_11 rfl ?_
  show zV zT m_St_init (zSH.take 51) (19, 213) 92 [some (2, 31), some (0, 11)] [(2, 32)] _ _
  refine zV_iload_n d_St_init_92 rfl ?_
  refine zV_new (nI := 51) d_St_init_93 c_St_9 rfl ⟨by decide, by decide⟩ ?_
  show zV zT m_St_init (zSH.take 52) (20, 217) 96 [some (2, 31), some (0, 11)] [(2, 51), (0, 11), (2, 32)] _ _
  refine zV_dup d_St_init_96 (by decide) ?_
  refine zV_invi m_Ro_init [] d_St_init_97 (Or.inr (List.mem_of_getElem? (i := 3) rfl)) k_Ro_init rfl (by decide) rfl rfl rfl rfl (i_Ro _ _ 51 rfl) (fun r9 sh9 m9 hq9 => ?_)
  obtain ⟨rfl, rfl, rfl⟩ := hq9
  show zV zT m_St_init (zSH.take 52) (20, 217) 100 [some (2, 31), some (0, 11)] [(2, 51), (0, 11), (2, 32)] _ _
  refine zV_aast (m9 := 12) (m8 := 0) (ck := 6) 16 4 (Or.inr ⟨rfl, rfl, rfl⟩) d_St_init_100 rfl rfl ⟨by decide, by decide⟩ rfl ?_
  refine zV_iinc (L' := [some (2, 31), some (0, 12)]) d_St_init_101 (by decide) rfl rfl ?_
  refine zV_goto d_St_init_104 ?_
  refine zV_iload_n d_St_init_82 rfl ?_
  refine zV_bipush d_St_init_83 ?_
  refine zV_icmp_ge d_St_init_85 ⟨by decide, by decide⟩ ⟨by decide, by decide⟩ (fun _ => ?_) (fun z => absurd z (by decide))
  exact zV_vret d_St_init_107 rfl ⟨by decide, by decide⟩ ⟨rfl, rfl, rfl⟩
def wSt_52 (mem : zMem) : zMem := (zup (wRo (zupA (zup (wRo (zupA (zup (wRo (zupA (zup (wRo (zupA (zup (wRo (zupA (zup (wRo (zupA (zup (wRo (zupA (zup (wRo (zupA (zup (wRo (zupA (zup (wRo (zupA (zup (wRo (zupA (zup (wRo (zupA (zup (zupA (zup (zupA (zup (zupA (zup (zupA (zup (zupA (zup (zupA (zup (zupA (zup (zup (zup (zup (zupA mem 53 (fun _ => -1)) 52 0 53) 52 1 0) 52 2 0) 52 3 0) 54 (fun _ => 0)) 52 4 54) 55 (fun _ => 0)) 52 5 55) 56 (fun _ => 0)) 52 6 56) 57 (fun _ => 0)) 52 7 57) 58 (fun _ => 0)) 52 8 58) 59 (fun _ => 0)) 52 9 59) 60 (fun _ => 0)) 52 10 60) 61 (zblk 6)) 61) 53 0 61) 62 (zblk 6)) 62) 53 1 62) 63 (zblk 6)) 63) 53 2 63) 64 (zblk 6)) 64) 53 3 64) 65 (zblk 6)) 65) 53 4 65) 66 (zblk 6)) 66) 53 5 66) 67 (zblk 6)) 67) 53 6 67) 68 (zblk 6)) 68) 53 7 68) 69 (zblk 6)) 69) 53 8 69) 70 (zblk 6)) 70) 53 9 70) 71 (zblk 6)) 71) 53 10 71) 72 (zblk 6)) 72) 53 11 72)
theorem i_St_52 (mem : zMem) : zSp m_St_init [(2, 52)] (zSH.take 53) mem (fun r sh m => r = none ∧ sh = zSH.take 73 ∧ m = wSt_52 mem) := by
  refine zSp_of (by decide) (Nat.le_of_ble_eq_true rfl) ?_
  show zV zT m_St_init (zSH.take 53) (0, 0) 0 [some (2, 52), none] [] mem _
  refine zV_aload_n d_St_init_0 rfl ?_
  refine zV_obj d_St_init_1 l_St_3 zo_inst zo_code rfl (by decide) rfl ⟨by decide, by decide⟩ ?_
  refine zV_aload_n d_St_init_4 rfl ?_
  refine zV_bipush d_St_init_5 ?_
  refine zV_anew (kd := 16) (m9 := 12) (nI := 53) "CellPlane$Root" (Or.inr ⟨rfl, rfl⟩) d_St_init_7 c_St_9.2.1 ⟨rfl, rfl⟩ rfl ⟨by decide, by decide⟩ ?_
  show zV zT m_St_init (zSH.take 54) (1, 12) 10 [some (2, 52), none] [(2, 53), (2, 52)] _ _
  refine zV_putF d_St_init_10 f_St_11 rfl ⟨rfl, rfl, rfl⟩ ?_
  refine zV_aload_n d_St_init_13 rfl ?_
  refine zV_iconst d_St_init_14 ?_
  refine zV_puti d_St_init_15 f_St_17 rfl ⟨rfl, rfl⟩ ?_
  refine zV_aload_n d_St_init_18 rfl ?_
  refine zV_iconst d_St_init_19 ?_
  refine zV_puti d_St_init_20 f_St_21 rfl ⟨rfl, rfl⟩ ?_
  refine zV_aload_n d_St_init_23 rfl ?_
  refine zV_iconst d_St_init_24 ?_
  refine zV_puti d_St_init_25 f_St_24 rfl ⟨rfl, rfl⟩ ?_
  refine zV_aload_n d_St_init_28 rfl ?_
  refine zV_bipush d_St_init_29 ?_
  refine zV_newa (kd := 12) (m9 := 25) (nI := 54) .int .int (Or.inl ⟨rfl, rfl, rfl⟩) d_St_init_31 zw_int ⟨rfl, rfl⟩ rfl ⟨by decide, by decide⟩ ?_
  show zV zT m_St_init (zSH.take 55) (2, 37) 33 [some (2, 52), none] [(2, 54), (2, 52)] _ _
  refine zV_putF d_St_init_33 f_St_27 rfl ⟨rfl, rfl, rfl⟩ ?_
  refine zV_aload_n d_St_init_36 rfl ?_
  refine zV_bipush d_St_init_37 ?_
  refine zV_newa (kd := 12) (m9 := 100) (nI := 55) .int .int (Or.inl ⟨rfl, rfl, rfl⟩) d_St_init_39 zw_int ⟨rfl, rfl⟩ rfl ⟨by decide, by decide⟩ ?_
  show zV zT m_St_init (zSH.take 56) (3, 137) 41 [some (2, 52), none] [(2, 55), (2, 52)] _ _
  refine zV_putF d_St_init_41 f_St_31 rfl ⟨rfl, rfl, rfl⟩ ?_
  refine zV_aload_n d_St_init_44 rfl ?_
  refine zV_iconst d_St_init_45 ?_
  refine zV_newa (kd := 14) (m9 := 4) (nI := 56) .boolean .boolean (Or.inr (Or.inr ⟨rfl, rfl, rfl⟩)) d_St_init_46 zw_boolean ⟨rfl, rfl⟩ rfl ⟨by decide, by decide⟩ ?_
  show zV zT m_St_init (zSH.take 57) (4, 141) 48 [some (2, 52), none] [(2, 56), (2, 52)] _ _
  refine zV_putF d_St_init_48 f_St_34 rfl ⟨rfl, rfl, rfl⟩ ?_
  refine zV_aload_n d_St_init_51 rfl ?_
  refine zV_iconst d_St_init_52 ?_
  refine zV_newa (kd := 12) (m9 := 4) (nI := 57) .int .int (Or.inl ⟨rfl, rfl, rfl⟩) d_St_init_53 zw_int ⟨rfl, rfl⟩ rfl ⟨by decide, by decide⟩ ?_
  show zV zT m_St_init (zSH.take 58) (5, 145) 55 [some (2, 52), none] [(2, 57), (2, 52)] _ _
  refine zV_putF d_St_init_55 f_St_38 rfl ⟨rfl, rfl, rfl⟩ ?_
  refine zV_aload_n d_St_init_58 rfl ?_
  refine zV_iconst d_St_init_59 ?_
  refine zV_newa (kd := 12) (m9 := 4) (nI := 58) .int .int (Or.inl ⟨rfl, rfl, rfl⟩) d_St_init_60 zw_int ⟨rfl, rfl⟩ rfl ⟨by decide, by decide⟩ ?_
  show zV zT m_St_init (zSH.take 59) (6, 149) 62 [some (2, 52), none] [(2, 58), (2, 52)] _ _
  refine zV_putF d_St_init_62 f_St_41 rfl ⟨rfl, rfl, rfl⟩ ?_
  refine zV_aload_n d_St_init_65 rfl ?_
  refine zV_iconst d_St_init_66 ?_
  refine zV_newa (kd := 12) (m9 := 4) (nI := 59) .int .int (Or.inl ⟨rfl, rfl, rfl⟩) d_St_init_67 zw_int ⟨rfl, rfl⟩ rfl ⟨by decide, by decide⟩ ?_
  show zV zT m_St_init (zSH.take 60) (7, 153) 69 [some (2, 52), none] [(2, 59), (2, 52)] _ _
  refine zV_putF d_St_init_69 f_St_44 rfl ⟨rfl, rfl, rfl⟩ ?_
  refine zV_aload_n d_St_init_72 rfl ?_
  refine zV_bipush d_St_init_73 ?_
  refine zV_newa (kd := 12) (m9 := 16) (nI := 60) .int .int (Or.inl ⟨rfl, rfl, rfl⟩) d_St_init_75 zw_int ⟨rfl, rfl⟩ rfl ⟨by decide, by decide⟩ ?_
  show zV zT m_St_init (zSH.take 61) (8, 169) 77 [some (2, 52), none] [(2, 60), (2, 52)] _ _
  refine zV_putF d_St_init_77 f_St_47 rfl ⟨rfl, rfl, rfl⟩ ?_
  refine zV_iconst d_St_init_80 ?_
  refine zV_istore_n (L' := [some (2, 52), some (0, 0)]) d_St_init_81 (by decide) rfl ?_
  refine zV_iload_n d_St_init_82 rfl ?_
  refine zV_bipush d_St_init_83 ?_
  refine zV_icmp_ge d_St_init_85 ⟨by decide, by decide⟩ ⟨by decide, by decide⟩ (fun z => absurd z (by decide)) (fun _ => ?_)
  refine zV_aload_n d_St_init_88 rfl ?_
  refine zV_getf d_St_init_89 f_St_11 rfl ?_
  show zV zT m_St_init (zSH.take 61) (8, 169) 92 [some (2, 52), some (0, 0)] [(2, 53)] _ _
  refine zV_iload_n d_St_init_92 rfl ?_
  refine zV_new (nI := 61) d_St_init_93 c_St_9 rfl ⟨by decide, by decide⟩ ?_
  show zV zT m_St_init (zSH.take 62) (9, 173) 96 [some (2, 52), some (0, 0)] [(2, 61), (0, 0), (2, 53)] _ _
  refine zV_dup d_St_init_96 (by decide) ?_
  refine zV_invi m_Ro_init [] d_St_init_97 (Or.inr (List.mem_of_getElem? (i := 3) rfl)) k_Ro_init rfl (by decide) rfl rfl rfl rfl (i_Ro _ _ 61 rfl) (fun r9 sh9 m9 hq9 => ?_)
  obtain ⟨rfl, rfl, rfl⟩ := hq9
  show zV zT m_St_init (zSH.take 62) (9, 173) 100 [some (2, 52), some (0, 0)] [(2, 61), (0, 0), (2, 53)] _ _
  refine zV_aast (m9 := 12) (m8 := 0) (ck := 6) 16 4 (Or.inr ⟨rfl, rfl, rfl⟩) d_St_init_100 rfl rfl ⟨by decide, by decide⟩ rfl ?_
  refine zV_iinc (L' := [some (2, 52), some (0, 1)]) d_St_init_101 (by decide) rfl rfl ?_
  refine zV_goto d_St_init_104 ?_
  refine zV_iload_n d_St_init_82 rfl ?_
  refine zV_bipush d_St_init_83 ?_
  refine zV_icmp_ge d_St_init_85 ⟨by decide, by decide⟩ ⟨by decide, by decide⟩ (fun z => absurd z (by decide)) (fun _ => ?_)
  refine zV_aload_n d_St_init_88 rfl ?_
  refine zV_getf d_St_init_89 f_St_11 rfl ?_
  show zV zT m_St_init (zSH.take 62) (9, 173) 92 [some (2, 52), some (0, 1)] [(2, 53)] _ _
  refine zV_iload_n d_St_init_92 rfl ?_
  refine zV_new (nI := 62) d_St_init_93 c_St_9 rfl ⟨by decide, by decide⟩ ?_
  show zV zT m_St_init (zSH.take 63) (10, 177) 96 [some (2, 52), some (0, 1)] [(2, 62), (0, 1), (2, 53)] _ _
  refine zV_dup d_St_init_96 (by decide) ?_
  refine zV_invi m_Ro_init [] d_St_init_97 (Or.inr (List.mem_of_getElem? (i := 3) rfl)) k_Ro_init rfl (by decide) rfl rfl rfl rfl (i_Ro _ _ 62 rfl) (fun r9 sh9 m9 hq9 => ?_)
  obtain ⟨rfl, rfl, rfl⟩ := hq9
  show zV zT m_St_init (zSH.take 63) (10, 177) 100 [some (2, 52), some (0, 1)] [(2, 62), (0, 1), (2, 53)] _ _
  refine zV_aast (m9 := 12) (m8 := 0) (ck := 6) 16 4 (Or.inr ⟨rfl, rfl, rfl⟩) d_St_init_100 rfl rfl ⟨by decide, by decide⟩ rfl ?_
  refine zV_iinc (L' := [some (2, 52), some (0, 2)]) d_St_init_101 (by decide) rfl rfl ?_
  refine zV_goto d_St_init_104 ?_
  refine zV_iload_n d_St_init_82 rfl ?_
  refine zV_bipush d_St_init_83 ?_
  refine zV_icmp_ge d_St_init_85 ⟨by decide, by decide⟩ ⟨by decide, by decide⟩ (fun z => absurd z (by decide)) (fun _ => ?_)
  refine zV_aload_n d_St_init_88 rfl ?_
  refine zV_getf d_St_init_89 f_St_11 rfl ?_
  show zV zT m_St_init (zSH.take 63) (10, 177) 92 [some (2, 52), some (0, 2)] [(2, 53)] _ _
  refine zV_iload_n d_St_init_92 rfl ?_
  refine zV_new (nI := 63) d_St_init_93 c_St_9 rfl ⟨by decide, by decide⟩ ?_
  show zV zT m_St_init (zSH.take 64) (11, 181) 96 [some (2, 52), some (0, 2)] [(2, 63), (0, 2), (2, 53)] _ _
  refine zV_dup d_St_init_96 (by decide) ?_
  refine zV_invi m_Ro_init [] d_St_init_97 (Or.inr (List.mem_of_getElem? (i := 3) rfl)) k_Ro_init rfl (by decide) rfl rfl rfl rfl (i_Ro _ _ 63 rfl) (fun r9 sh9 m9 hq9 => ?_)
  obtain ⟨rfl, rfl, rfl⟩ := hq9
  show zV zT m_St_init (zSH.take 64) (11, 181) 100 [some (2, 52), some (0, 2)] [(2, 63), (0, 2), (2, 53)] _ _
  refine zV_aast (m9 := 12) (m8 := 0) (ck := 6) 16 4 (Or.inr ⟨rfl, rfl, rfl⟩) d_St_init_100 rfl rfl ⟨by decide, by decide⟩ rfl ?_
  refine zV_iinc (L' := [some (2, 52), some (0, 3)]) d_St_init_101 (by decide) rfl rfl ?_
  refine zV_goto d_St_init_104 ?_
  refine zV_iload_n d_St_init_82 rfl ?_
  refine zV_bipush d_St_init_83 ?_
  refine zV_icmp_ge d_St_init_85 ⟨by decide, by decide⟩ ⟨by decide, by decide⟩ (fun z => absurd z (by decide)) (fun _ => ?_)
  refine zV_aload_n d_St_init_88 rfl ?_
  refine zV_getf d_St_init_89 f_St_11 rfl ?_
  show zV zT m_St_init (zSH.take 64) (11, 181) 92 [some (2, 52), some (0, 3)] [(2, 53)] _ _
  refine zV_iload_n d_St_init_92 rfl ?_
  refine zV_new (nI := 64) d_St_init_93 c_St_9 rfl ⟨by decide, by decide⟩ ?_
  show zV zT m_St_init (zSH.take 65) (12, 185) 96 [some (2, 52), some (0, 3)] [(2, 64), (0, 3), (2, 53)] _ _
  refine zV_dup d_St_init_96 (by decide) ?_
  refine zV_invi m_Ro_init [] d_St_init_97 (Or.inr (List.mem_of_getElem? (i := 3) rfl)) k_Ro_init rfl (by decide) rfl rfl rfl rfl (i_Ro _ _ 64 rfl) (fun r9 sh9 m9 hq9 => ?_)
  obtain ⟨rfl, rfl, rfl⟩ := hq9
  show zV zT m_St_init (zSH.take 65) (12, 185) 100 [some (2, 52), some (0, 3)] [(2, 64), (0, 3), (2, 53)] _ _
  refine zV_aast (m9 := 12) (m8 := 0) (ck := 6) 16 4 (Or.inr ⟨rfl, rfl, rfl⟩) d_St_init_100 rfl rfl ⟨by decide, by decide⟩ rfl ?_
  refine zV_iinc (L' := [some (2, 52), some (0, 4)]) d_St_init_101 (by decide) rfl rfl ?_
  refine zV_goto d_St_init_104 ?_
  refine zV_iload_n d_St_init_82 rfl ?_
  refine zV_bipush d_St_init_83 ?_
  refine zV_icmp_ge d_St_init_85 ⟨by decide, by decide⟩ ⟨by decide, by decide⟩ (fun z => absurd z (by decide)) (fun _ => ?_)
  refine zV_aload_n d_St_init_88 rfl ?_
  refine zV_getf d_St_init_89 f_St_11 rfl ?_
  show zV zT m_St_init (zSH.take 65) (12, 185) 92 [some (2, 52), some (0, 4)] [(2, 53)] _ _
  refine zV_iload_n d_St_init_92 rfl ?_
  refine zV_new (nI := 65) d_St_init_93 c_St_9 rfl ⟨by decide, by decide⟩ ?_
  show zV zT m_St_init (zSH.take 66) (13, 189) 96 [some (2, 52), some (0, 4)] [(2, 65), (0, 4), (2, 53)] _ _
  refine zV_dup d_St_init_96 (by decide) ?_
  refine zV_invi m_Ro_init [] d_St_init_97 (Or.inr (List.mem_of_getElem? (i := 3) rfl)) k_Ro_init rfl (by decide) rfl rfl rfl rfl (i_Ro _ _ 65 rfl) (fun r9 sh9 m9 hq9 => ?_)
  obtain ⟨rfl, rfl, rfl⟩ := hq9
  show zV zT m_St_init (zSH.take 66) (13, 189) 100 [some (2, 52), some (0, 4)] [(2, 65), (0, 4), (2, 53)] _ _
  refine zV_aast (m9 := 12) (m8 := 0) (ck := 6) 16 4 (Or.inr ⟨rfl, rfl, rfl⟩) d_St_init_100 rfl rfl ⟨by decide, by decide⟩ rfl ?_
  refine zV_iinc (L' := [some (2, 52), some (0, 5)]) d_St_init_101 (by decide) rfl rfl ?_
  refine zV_goto d_St_init_104 ?_
  refine zV_iload_n d_St_init_82 rfl ?_
  refine zV_bipush d_St_init_83 ?_
  refine zV_icmp_ge d_St_init_85 ⟨by decide, by decide⟩ ⟨by decide, by decide⟩ (fun z => absurd z (by decide)) (fun _ => ?_)
  refine zV_aload_n d_St_init_88 rfl ?_
  refine zV_getf d_St_init_89 f_St_11 rfl ?_
  show zV zT m_St_init (zSH.take 66) (13, 189) 92 [some (2, 52), some (0, 5)] [(2, 53)] _ _
  refine zV_iload_n d_St_init_92 rfl ?_
  refine zV_new (nI := 66) d_St_init_93 c_St_9 rfl ⟨by decide, by decide⟩ ?_
  show zV zT m_St_init (zSH.take 67) (14, 193) 96 [some (2, 52), some (0, 5)] [(2, 66), (0, 5), (2, 53)] _ _
  refine zV_dup d_St_init_96 (by decide) ?_
  refine zV_invi m_Ro_init [] d_St_init_97 (Or.inr (List.mem_of_getElem? (i := 3) rfl)) k_Ro_init rfl (by decide) rfl rfl rfl rfl (i_Ro _ _ 66 rfl) (fun r9 sh9 m9 hq9 => ?_)
  obtain ⟨rfl, rfl, rfl⟩ := hq9
  show zV zT m_St_init (zSH.take 67) (14, 193) 100 [some (2, 52), some (0, 5)] [(2, 66), (0, 5), (2, 53)] _ _
  refine zV_aast (m9 := 12) (m8 := 0) (ck := 6) 16 4 (Or.inr ⟨rfl, rfl, rfl⟩) d_St_init_100 rfl rfl ⟨by decide, by decide⟩ rfl ?_
  refine zV_iinc (L' := [some (2, 52), some (0, 6)]) d_St_init_101 (by decide) rfl rfl ?_
  refine zV_goto d_St_init_104 ?_
  refine zV_iload_n d_St_init_82 rfl ?_
  refine zV_bipush d_St_init_83 ?_
  refine zV_icmp_ge d_St_init_85 ⟨by decide, by decide⟩ ⟨by decide, by decide⟩ (fun z => absurd z (by decide)) (fun _ => ?_)
  refine zV_aload_n d_St_init_88 rfl ?_
  refine zV_getf d_St_init_89 f_St_11 rfl ?_
  show zV zT m_St_init (zSH.take 67) (14, 193) 92 [some (2, 52), some (0, 6)] [(2, 53)] _ _
  refine zV_iload_n d_St_init_92 rfl ?_
  refine zV_new (nI := 67) d_St_init_93 c_St_9 rfl ⟨by decide, by decide⟩ ?_
  show zV zT m_St_init (zSH.take 68) (15, 197) 96 [some (2, 52), some (0, 6)] [(2, 67), (0, 6), (2, 53)] _ _
  refine zV_dup d_St_init_96 (by decide) ?_
  refine zV_invi m_Ro_init [] d_St_init_97 (Or.inr (List.mem_of_getElem? (i := 3) rfl)) k_Ro_init rfl (by decide) rfl rfl rfl rfl (i_Ro _ _ 67 rfl) (fun r9 sh9 m9 hq9 => ?_)
  obtain ⟨rfl, rfl, rfl⟩ := hq9
  show zV zT m_St_init (zSH.take 68) (15, 197) 100 [some (2, 52), some (0, 6)] [(2, 67), (0, 6), (2, 53)] _ _
  refine zV_aast (m9 := 12) (m8 := 0) (ck := 6) 16 4 (Or.inr ⟨rfl, rfl, rfl⟩) d_St_init_100 rfl rfl ⟨by decide, by decide⟩ rfl ?_
  refine zV_iinc (L' := [some (2, 52), some (0, 7)]) d_St_init_101 (by decide) rfl rfl ?_
  refine zV_goto d_St_init_104 ?_
  refine zV_iload_n d_St_init_82 rfl ?_
  refine zV_bipush d_St_init_83 ?_
  refine zV_icmp_ge d_St_init_85 ⟨by decide, by decide⟩ ⟨by decide, by decide⟩ (fun z => absurd z (by decide)) (fun _ => ?_)
  refine zV_aload_n d_St_init_88 rfl ?_
  refine zV_getf d_St_init_89 f_St_11 rfl ?_
  show zV zT m_St_init (zSH.take 68) (15, 197) 92 [some (2, 52), some (0, 7)] [(2, 53)] _ _
  refine zV_iload_n d_St_init_92 rfl ?_
  refine zV_new (nI := 68) d_St_init_93 c_St_9 rfl ⟨by decide, by decide⟩ ?_
  show zV zT m_St_init (zSH.take 69) (16, 201) 96 [some (2, 52), some (0, 7)] [(2, 68), (0, 7), (2, 53)] _ _
  refine zV_dup d_St_init_96 (by decide) ?_
  refine zV_invi m_Ro_init [] d_St_init_97 (Or.inr (List.mem_of_getElem? (i := 3) rfl)) k_Ro_init rfl (by decide) rfl rfl rfl rfl (i_Ro _ _ 68 rfl) (fun r9 sh9 m9 hq9 => ?_)
  obtain ⟨rfl, rfl, rfl⟩ := hq9
  show zV zT m_St_init (zSH.take 69) (16, 201) 100 [some (2, 52), some (0, 7)] [(2, 68), (0, 7), (2, 53)] _ _
  refine zV_aast (m9 := 12) (m8 := 0) (ck := 6) 16 4 (Or.inr ⟨rfl, rfl, rfl⟩) d_St_init_100 rfl rfl ⟨by decide, by decide⟩ rfl ?_
  refine zV_iinc (L' := [some (2, 52), some (0, 8)]) d_St_init_101 (by decide) rfl rfl ?_
  refine zV_goto d_St_init_104 ?_
  refine zV_iload_n d_St_init_82 rfl ?_
  refine zV_bipush d_St_init_83 ?_
  refine zV_icmp_ge d_St_init_85 ⟨by decide, by decide⟩ ⟨by decide, by decide⟩ (fun z => absurd z (by decide)) (fun _ => ?_)
  refine zV_aload_n d_St_init_88 rfl ?_
  refine zV_getf d_St_init_89 f_St_11 rfl ?_
  show zV zT m_St_init (zSH.take 69) (16, 201) 92 [some (2, 52), some (0, 8)] [(2, 53)] _ _
  refine zV_iload_n d_St_init_92 rfl ?_
  refine zV_new (nI := 69) d_St_init_93 c_St_9 rfl ⟨by decide, by decide⟩ ?_
  show zV zT m_St_init (zSH.take 70) (17, 205) 96 [some (2, 52), some (0, 8)] [(2, 69), (0, 8), (2, 53)] _ _
  refine zV_dup d_St_init_96 (by decide) ?_
  refine zV_invi m_Ro_init [] d_St_init_97 (Or.inr (List.mem_of_getElem? (i := 3) rfl)) k_Ro_init rfl (by decide) rfl rfl rfl rfl (i_Ro _ _ 69 rfl) (fun r9 sh9 m9 hq9 => ?_)
  obtain ⟨rfl, rfl, rfl⟩ := hq9
  show zV zT m_St_init (zSH.take 70) (17, 205) 100 [some (2, 52), some (0, 8)] [(2, 69), (0, 8), (2, 53)] _ _
  refine zV_aast (m9 := 12) (m8 := 0) (ck := 6) 16 4 (Or.inr ⟨rfl, rfl, rfl⟩) d_St_init_100 rfl rfl ⟨by decide, by decide⟩ rfl ?_
  refine zV_iinc (L' := [some (2, 52), some (0, 9)]) d_St_init_101 (by decide) rfl rfl ?_
  refine zV_goto d_St_init_104 ?_
  refine zV_iload_n d_St_init_82 rfl ?_
  refine zV_bipush d_St_init_83 ?_
  refine zV_icmp_ge d_St_init_85 ⟨by decide, by decide⟩ ⟨by decide, by decide⟩ (fun z => absurd z (by decide)) (fun _ => ?_)
  refine zV_aload_n d_St_init_88 rfl ?_
  refine zV_getf d_St_init_89 f_St_11 rfl ?_
  show zV zT m_St_init (zSH.take 70) (17, 205) 92 [some (2, 52), some (0, 9)] [(2, 53)] _ _
  refine zV_iload_n d_St_init_92 rfl ?_
  refine zV_new (nI := 70) d_St_init_93 c_St_9 rfl ⟨by decide, by decide⟩ ?_
  show zV zT m_St_init (zSH.take 71) (18, 209) 96 [some (2, 52), some (0, 9)] [(2, 70), (0, 9), (2, 53)] _ _
  refine zV_dup d_St_init_96 (by decide) ?_
  refine zV_invi m_Ro_init [] d_St_init_97 (Or.inr (List.mem_of_getElem? (i := 3) rfl)) k_Ro_init rfl (by decide) rfl rfl rfl rfl (i_Ro _ _ 70 rfl) (fun r9 sh9 m9 hq9 => ?_)
  obtain ⟨rfl, rfl, rfl⟩ := hq9
  show zV zT m_St_init (zSH.take 71) (18, 209) 100 [some (2, 52), some (0, 9)] [(2, 70), (0, 9), (2, 53)] _ _
  refine zV_aast (m9 := 12) (m8 := 0) (ck := 6) 16 4 (Or.inr ⟨rfl, rfl, rfl⟩) d_St_init_100 rfl rfl ⟨by decide, by decide⟩ rfl ?_
  refine zV_iinc (L' := [some (2, 52), some (0, 10)]) d_St_init_101 (by decide) rfl rfl ?_
  refine zV_goto d_St_init_104 ?_
  refine zV_iload_n d_St_init_82 rfl ?_
  refine zV_bipush d_St_init_83 ?_
  refine zV_icmp_ge d_St_init_85 ⟨by decide, by decide⟩ ⟨by decide, by decide⟩ (fun z => absurd z (by decide)) (fun _ => ?_)
  refine zV_aload_n d_St_init_88 rfl ?_
  refine zV_getf d_St_init_89 f_St_11 rfl ?_
  show zV zT m_St_init (zSH.take 71) (18, 209) 92 [some (2, 52), some (0, 10)] [(2, 53)] _ _
  refine zV_iload_n d_St_init_92 rfl ?_
  refine zV_new (nI := 71) d_St_init_93 c_St_9 rfl ⟨by decide, by decide⟩ ?_
  show zV zT m_St_init (zSH.take 72) (19, 213) 96 [some (2, 52), some (0, 10)] [(2, 71), (0, 10), (2, 53)] _ _
  refine zV_dup d_St_init_96 (by decide) ?_
  refine zV_invi m_Ro_init [] d_St_init_97 (Or.inr (List.mem_of_getElem? (i := 3) rfl)) k_Ro_init rfl (by decide) rfl rfl rfl rfl (i_Ro _ _ 71 rfl) (fun r9 sh9 m9 hq9 => ?_)
  obtain ⟨rfl, rfl, rfl⟩ := hq9
  show zV zT m_St_init (zSH.take 72) (19, 213) 100 [some (2, 52), some (0, 10)] [(2, 71), (0, 10), (2, 53)] _ _
  refine zV_aast (m9 := 12) (m8 := 0) (ck := 6) 16 4 (Or.inr ⟨rfl, rfl, rfl⟩) d_St_init_100 rfl rfl ⟨by decide, by decide⟩ rfl ?_
  refine zV_iinc (L' := [some (2, 52), some (0, 11)]) d_St_init_101 (by decide) rfl rfl ?_
  refine zV_goto d_St_init_104 ?_
  refine zV_iload_n d_St_init_82 rfl ?_
  refine zV_bipush d_St_init_83 ?_
  refine zV_icmp_ge d_St_init_85 ⟨by decide, by decide⟩ ⟨by decide, by decide⟩ (fun z => absurd z (by decide)) (fun _ => ?_)
  refine zV_aload_n d_St_init_88 rfl ?_
  refine zV_getf d_St_init_89 f_St_11 rfl ?_
  show zV zT m_St_init (zSH.take 72) (19, 213) 92 [some (2, 52), some (0, 11)] [(2, 53)] _ _
  refine zV_iload_n d_St_init_92 rfl ?_
  refine zV_new (nI := 72) d_St_init_93 c_St_9 rfl ⟨by decide, by decide⟩ ?_
  show zV zT m_St_init (zSH.take 73) (20, 217) 96 [some (2, 52), some (0, 11)] [(2, 72), (0, 11), (2, 53)] _ _
  refine zV_dup d_St_init_96 (by decide) ?_
  refine zV_invi m_Ro_init [] d_St_init_97 (Or.inr (List.mem_of_getElem? (i := 3) rfl)) k_Ro_init rfl (by decide) rfl rfl rfl rfl (i_Ro _ _ 72 rfl) (fun r9 sh9 m9 hq9 => ?_)
  obtain ⟨rfl, rfl, rfl⟩ := hq9
  show zV zT m_St_init (zSH.take 73) (20, 217) 100 [some (2, 52), some (0, 11)] [(2, 72), (0, 11), (2, 53)] _ _
  refine zV_aast (m9 := 12) (m8 := 0) (ck := 6) 16 4 (Or.inr ⟨rfl, rfl, rfl⟩) d_St_init_100 rfl rfl ⟨by decide, by decide⟩ rfl ?_
  refine zV_iinc (L' := [some (2, 52), some (0, 12)]) d_St_init_101 (by decide) rfl rfl ?_
  refine zV_goto d_St_init_104 ?_
  refine zV_iload_n d_St_init_82 rfl ?_
  refine zV_bipush d_St_init_83 ?_
  refine zV_icmp_ge d_St_init_85 ⟨by decide, by decide⟩ ⟨by decide, by decide⟩ (fun _ => ?_) (fun z => absurd z (by decide))
  exact zV_vret d_St_init_107 rfl ⟨by decide, by decide⟩ ⟨rfl, rfl, rfl⟩
def wCp_0 (mem : zMem) : zMem := (zup (zup (zup (zup (zup (wRi_78 (zupA (zup (wDi_77 (zupA (zup (wGr_75 (zupA (zup (wFo_73 (zupA (zup (wSt_52 (zupA (zup (wSt_31 (zupA (zup (wSe_26 (zupA (zup (wSe_21 (zupA (zup (wRw_15 (zupA (zup (wRw_9 (zupA (zup (wRw_3 (zupA (zup (wPa_1 (zupA mem 1 (zblk 4))) 0 0 1) 3 (zblk 7))) 0 1 3) 9 (zblk 7))) 0 2 9) 15 (zblk 7))) 0 3 15) 21 (zblk 8))) 0 4 21) 26 (zblk 8))) 0 5 26) 31 (zblk 9))) 0 6 31) 52 (zblk 9))) 0 7 52) 73 (zblk 2))) 0 8 73) 75 (zblk 3))) 0 9 75) 77 (zblk 1))) 0 10 77) 78 (zblk 5))) 0 11 78) 0 12 0) 0 13 0) 0 14 0) 0 15 1)
theorem i_Cp_0 (mem : zMem) : zSp m_Cp_init [(2, 0)] (zSH.take 1) mem (fun r sh m => r = none ∧ sh = zSH.take 80 ∧ m = wCp_0 mem) := by
  refine zSp_of (by decide) (Nat.le_of_ble_eq_true rfl) ?_
  show zV zT m_Cp_init (zSH.take 1) (0, 0) 0 [some (2, 0)] [] mem _
  refine zV_aload_n d_Cp_init_0 rfl ?_
  refine zV_obj d_Cp_init_1 l_Cp_3 zo_inst zo_code rfl (by decide) rfl ⟨by decide, by decide⟩ ?_
  refine zV_aload_n d_Cp_init_4 rfl ?_
  refine zV_new (nI := 1) d_Cp_init_5 c_Cp_9 rfl ⟨by decide, by decide⟩ ?_
  show zV zT m_Cp_init (zSH.take 2) (1, 2) 8 [some (2, 0)] [(2, 1), (2, 0)] _ _
  refine zV_dup d_Cp_init_8 (by decide) ?_
  refine zV_invi m_Pa_init [] d_Cp_init_9 (Or.inr (List.mem_of_getElem? (i := 0) rfl)) k_Pa_init rfl (by decide) rfl rfl rfl rfl (i_Pa_1 _) (fun r9 sh9 m9 hq9 => ?_)
  obtain ⟨rfl, rfl, rfl⟩ := hq9
  show zV zT m_Cp_init (zSH.take 3) (2, 26) 12 [some (2, 0)] [(2, 1), (2, 0)] _ _
  refine zV_putF d_Cp_init_12 f_Cp_12 rfl ⟨rfl, rfl, rfl⟩ ?_
  refine zV_aload_n d_Cp_init_15 rfl ?_
  refine zV_new (nI := 3) d_Cp_init_16 c_Cp_16 rfl ⟨by decide, by decide⟩ ?_
  show zV zT m_Cp_init (zSH.take 4) (3, 28) 19 [some (2, 0)] [(2, 3), (2, 0)] _ _
  refine zV_dup d_Cp_init_19 (by decide) ?_
  refine zV_invi m_Rw_init [] d_Cp_init_20 (Or.inl l_Cp_18) k_Rw_init rfl (by decide) rfl rfl rfl rfl (i_Rw_3 _) (fun r9 sh9 m9 hq9 => ?_)
  obtain ⟨rfl, rfl, rfl⟩ := hq9
  show zV zT m_Cp_init (zSH.take 9) (8, 48) 23 [some (2, 0)] [(2, 3), (2, 0)] _ _
  refine zV_putF d_Cp_init_23 f_Cp_19 rfl ⟨rfl, rfl, rfl⟩ ?_
  refine zV_aload_n d_Cp_init_26 rfl ?_
  refine zV_new (nI := 9) d_Cp_init_27 c_Cp_16 rfl ⟨by decide, by decide⟩ ?_
  show zV zT m_Cp_init (zSH.take 10) (9, 50) 30 [some (2, 0)] [(2, 9), (2, 0)] _ _
  refine zV_dup d_Cp_init_30 (by decide) ?_
  refine zV_invi m_Rw_init [] d_Cp_init_31 (Or.inl l_Cp_18) k_Rw_init rfl (by decide) rfl rfl rfl rfl (i_Rw_9 _) (fun r9 sh9 m9 hq9 => ?_)
  obtain ⟨rfl, rfl, rfl⟩ := hq9
  show zV zT m_Cp_init (zSH.take 15) (14, 70) 34 [some (2, 0)] [(2, 9), (2, 0)] _ _
  refine zV_putF d_Cp_init_34 f_Cp_23 rfl ⟨rfl, rfl, rfl⟩ ?_
  refine zV_aload_n d_Cp_init_37 rfl ?_
  refine zV_new (nI := 15) d_Cp_init_38 c_Cp_16 rfl ⟨by decide, by decide⟩ ?_
  show zV zT m_Cp_init (zSH.take 16) (15, 72) 41 [some (2, 0)] [(2, 15), (2, 0)] _ _
  refine zV_dup d_Cp_init_41 (by decide) ?_
  refine zV_invi m_Rw_init [] d_Cp_init_42 (Or.inl l_Cp_18) k_Rw_init rfl (by decide) rfl rfl rfl rfl (i_Rw_15 _) (fun r9 sh9 m9 hq9 => ?_)
  obtain ⟨rfl, rfl, rfl⟩ := hq9
  show zV zT m_Cp_init (zSH.take 21) (20, 92) 45 [some (2, 0)] [(2, 15), (2, 0)] _ _
  refine zV_putF d_Cp_init_45 f_Cp_26 rfl ⟨rfl, rfl, rfl⟩ ?_
  refine zV_aload_n d_Cp_init_48 rfl ?_
  refine zV_new (nI := 21) d_Cp_init_49 c_Cp_29 rfl ⟨by decide, by decide⟩ ?_
  show zV zT m_Cp_init (zSH.take 22) (21, 97) 52 [some (2, 0)] [(2, 21), (2, 0)] _ _
  refine zV_dup d_Cp_init_52 (by decide) ?_
  refine zV_invi m_Se_init [] d_Cp_init_53 (Or.inr (List.mem_of_getElem? (i := 2) rfl)) k_Se_init rfl (by decide) rfl rfl rfl rfl (i_Se_21 _) (fun r9 sh9 m9 hq9 => ?_)
  obtain ⟨rfl, rfl, rfl⟩ := hq9
  show zV zT m_Cp_init (zSH.take 26) (25, 121) 56 [some (2, 0)] [(2, 21), (2, 0)] _ _
  refine zV_putF d_Cp_init_56 f_Cp_32 rfl ⟨rfl, rfl, rfl⟩ ?_
  refine zV_aload_n d_Cp_init_59 rfl ?_
  refine zV_new (nI := 26) d_Cp_init_60 c_Cp_29 rfl ⟨by decide, by decide⟩ ?_
  show zV zT m_Cp_init (zSH.take 27) (26, 126) 63 [some (2, 0)] [(2, 26), (2, 0)] _ _
  refine zV_dup d_Cp_init_63 (by decide) ?_
  refine zV_invi m_Se_init [] d_Cp_init_64 (Or.inr (List.mem_of_getElem? (i := 2) rfl)) k_Se_init rfl (by decide) rfl rfl rfl rfl (i_Se_26 _) (fun r9 sh9 m9 hq9 => ?_)
  obtain ⟨rfl, rfl, rfl⟩ := hq9
  show zV zT m_Cp_init (zSH.take 31) (30, 150) 67 [some (2, 0)] [(2, 26), (2, 0)] _ _
  refine zV_putF d_Cp_init_67 f_Cp_36 rfl ⟨rfl, rfl, rfl⟩ ?_
  refine zV_aload_n d_Cp_init_70 rfl ?_
  refine zV_new (nI := 31) d_Cp_init_71 c_Cp_39 rfl ⟨by decide, by decide⟩ ?_
  show zV zT m_Cp_init (zSH.take 32) (31, 161) 74 [some (2, 0)] [(2, 31), (2, 0)] _ _
  refine zV_dup d_Cp_init_74 (by decide) ?_
  refine zV_invi m_St_init [] d_Cp_init_75 (Or.inl l_Cp_41) k_St_init rfl (by decide) rfl rfl rfl rfl (i_St_31 _) (fun r9 sh9 m9 hq9 => ?_)
  obtain ⟨rfl, rfl, rfl⟩ := hq9
  show zV zT m_Cp_init (zSH.take 52) (51, 378) 78 [some (2, 0)] [(2, 31), (2, 0)] _ _
  refine zV_putF d_Cp_init_78 f_Cp_42 rfl ⟨rfl, rfl, rfl⟩ ?_
  refine zV_aload_n d_Cp_init_81 rfl ?_
  refine zV_new (nI := 52) d_Cp_init_82 c_Cp_39 rfl ⟨by decide, by decide⟩ ?_
  show zV zT m_Cp_init (zSH.take 53) (52, 389) 85 [some (2, 0)] [(2, 52), (2, 0)] _ _
  refine zV_dup d_Cp_init_85 (by decide) ?_
  refine zV_invi m_St_init [] d_Cp_init_86 (Or.inl l_Cp_41) k_St_init rfl (by decide) rfl rfl rfl rfl (i_St_52 _) (fun r9 sh9 m9 hq9 => ?_)
  obtain ⟨rfl, rfl, rfl⟩ := hq9
  show zV zT m_Cp_init (zSH.take 73) (72, 606) 89 [some (2, 0)] [(2, 52), (2, 0)] _ _
  refine zV_putF d_Cp_init_89 f_Cp_46 rfl ⟨rfl, rfl, rfl⟩ ?_
  refine zV_aload_n d_Cp_init_92 rfl ?_
  refine zV_new (nI := 73) d_Cp_init_93 c_Cp_49 rfl ⟨by decide, by decide⟩ ?_
  show zV zT m_Cp_init (zSH.take 74) (73, 608) 96 [some (2, 0)] [(2, 73), (2, 0)] _ _
  refine zV_dup d_Cp_init_96 (by decide) ?_
  refine zV_invi m_Fo_init [] d_Cp_init_97 (Or.inr (List.mem_of_getElem? (i := 4) rfl)) k_Fo_init rfl (by decide) rfl rfl rfl rfl (i_Fo_73 _) (fun r9 sh9 m9 hq9 => ?_)
  obtain ⟨rfl, rfl, rfl⟩ := hq9
  show zV zT m_Cp_init (zSH.take 75) (74, 612) 100 [some (2, 0)] [(2, 73), (2, 0)] _ _
  refine zV_putF d_Cp_init_100 f_Cp_52 rfl ⟨rfl, rfl, rfl⟩ ?_
  refine zV_aload_n d_Cp_init_103 rfl ?_
  refine zV_new (nI := 75) d_Cp_init_104 c_Cp_56 rfl ⟨by decide, by decide⟩ ?_
  show zV zT m_Cp_init (zSH.take 76) (75, 614) 107 [some (2, 0)] [(2, 75), (2, 0)] _ _
  refine zV_dup d_Cp_init_107 (by decide) ?_
  refine zV_invi m_Gr_init [] d_Cp_init_108 (Or.inr (List.mem_of_getElem? (i := 5) rfl)) k_Gr_init rfl (by decide) rfl rfl rfl rfl (i_Gr_75 _) (fun r9 sh9 m9 hq9 => ?_)
  obtain ⟨rfl, rfl, rfl⟩ := hq9
  show zV zT m_Cp_init (zSH.take 77) (76, 839) 111 [some (2, 0)] [(2, 75), (2, 0)] _ _
  refine zV_putF d_Cp_init_111 f_Cp_59 rfl ⟨rfl, rfl, rfl⟩ ?_
  refine zV_aload_n d_Cp_init_114 rfl ?_
  refine zV_new (nI := 77) d_Cp_init_115 c_Cp_63 rfl ⟨by decide, by decide⟩ ?_
  show zV zT m_Cp_init (zSH.take 78) (77, 840) 118 [some (2, 0)] [(2, 77), (2, 0)] _ _
  refine zV_dup d_Cp_init_118 (by decide) ?_
  refine zV_invi m_Di_init [] d_Cp_init_119 (Or.inr (List.mem_of_getElem? (i := 6) rfl)) k_Di_init rfl (by decide) rfl rfl rfl rfl (i_Di_77 _) (fun r9 sh9 m9 hq9 => ?_)
  obtain ⟨rfl, rfl, rfl⟩ := hq9
  show zV zT m_Cp_init (zSH.take 78) (77, 840) 122 [some (2, 0)] [(2, 77), (2, 0)] _ _
  refine zV_putF d_Cp_init_122 f_Cp_66 rfl ⟨rfl, rfl, rfl⟩ ?_
  refine zV_aload_n d_Cp_init_125 rfl ?_
  refine zV_new (nI := 78) d_Cp_init_126 c_Cp_70 rfl ⟨by decide, by decide⟩ ?_
  show zV zT m_Cp_init (zSH.take 79) (78, 843) 129 [some (2, 0)] [(2, 78), (2, 0)] _ _
  refine zV_dup d_Cp_init_129 (by decide) ?_
  refine zV_invi m_Ri_init [] d_Cp_init_130 (Or.inr (List.mem_of_getElem? (i := 7) rfl)) k_Ri_init rfl (by decide) rfl rfl rfl rfl (i_Ri_78 _) (fun r9 sh9 m9 hq9 => ?_)
  obtain ⟨rfl, rfl, rfl⟩ := hq9
  show zV zT m_Cp_init (zSH.take 80) (79, 851) 133 [some (2, 0)] [(2, 78), (2, 0)] _ _
  refine zV_putF d_Cp_init_133 f_Cp_73 rfl ⟨rfl, rfl, rfl⟩ ?_
  refine zV_aload_n d_Cp_init_136 rfl ?_
  refine zV_iconst d_Cp_init_137 ?_
  refine zV_putz d_Cp_init_138 f_Cp_77 rfl ⟨rfl, rfl⟩ (Or.inl rfl) ?_
  refine zV_aload_n d_Cp_init_141 rfl ?_
  refine zV_iconst d_Cp_init_142 ?_
  refine zV_puti d_Cp_init_143 f_Cp_81 rfl ⟨rfl, rfl⟩ ?_
  refine zV_aload_n d_Cp_init_146 rfl ?_
  refine zV_iconst d_Cp_init_147 ?_
  refine zV_puti d_Cp_init_148 f_Cp_85 rfl ⟨rfl, rfl⟩ ?_
  refine zV_aload_n d_Cp_init_151 rfl ?_
  refine zV_iconst d_Cp_init_152 ?_
  refine zV_puti d_Cp_init_153 f_Cp_88 rfl ⟨rfl, rfl⟩ ?_
  exact zV_vret d_Cp_init_156 rfl ⟨by decide, by decide⟩ ⟨rfl, rfl, rfl⟩
