/-! constructors -/
def wCu (mem : zMem) (a : Int) : zMem := (zup (zup (zup (zup mem a 0 0) a 1 0) a 2 0) a 3 0)
theorem i_Cu (sh : zSh) (mem : zMem) (a : Int) (hk : zkd sh a = (0, 0)) : zSp m_Cu_init [(2, a)] sh mem (fun r sh9 m => r = none ∧ sh9 = sh ∧ m = wCu mem a) := by
  refine zSp_of (by decide) (Nat.le_of_ble_eq_true rfl) ?_
  show zV zT m_Cu_init sh (0, 0) 0 [some (2, a)] [] mem _
  refine zV_aload_n d_Cu_init_0 rfl ?_
  refine zV_obj d_Cu_init_1 l_Cu_3 zo_inst zo_code hk (by decide) rfl ⟨by decide, by decide⟩ ?_
  refine zV_aload_n d_Cu_init_4 rfl ?_
  refine zV_iconst d_Cu_init_5 ?_
  refine zV_puti d_Cu_init_6 f_Cu_9 hk ⟨rfl, rfl⟩ ?_
  refine zV_aload_n d_Cu_init_9 rfl ?_
  refine zV_iconst d_Cu_init_10 ?_
  refine zV_puti d_Cu_init_11 f_Cu_15 hk ⟨rfl, rfl⟩ ?_
  refine zV_aload_n d_Cu_init_14 rfl ?_
  refine zV_iconst d_Cu_init_15 ?_
  refine zV_puti d_Cu_init_16 f_Cu_18 hk ⟨rfl, rfl⟩ ?_
  refine zV_aload_n d_Cu_init_19 rfl ?_
  refine zV_iconst d_Cu_init_20 ?_
  refine zV_puti d_Cu_init_21 f_Cu_21 hk ⟨rfl, rfl⟩ ?_
  exact zV_vret d_Cu_init_24 rfl ⟨by decide, by decide⟩ ⟨rfl, rfl, rfl⟩
def wRo (mem : zMem) (a : Int) : zMem := (zup (zup (zup (zup mem a 0 0) a 1 0) a 2 0) a 3 1)
theorem i_Ro (sh : zSh) (mem : zMem) (a : Int) (hk : zkd sh a = (6, 0)) : zSp m_Ro_init [(2, a)] sh mem (fun r sh9 m => r = none ∧ sh9 = sh ∧ m = wRo mem a) := by
  refine zSp_of (by decide) (Nat.le_of_ble_eq_true rfl) ?_
  show zV zT m_Ro_init sh (0, 0) 0 [some (2, a)] [] mem _
  refine zV_aload_n d_Ro_init_0 rfl ?_
  refine zV_obj d_Ro_init_1 l_Ro_1 zo_inst zo_code hk (by decide) rfl ⟨by decide, by decide⟩ ?_
  refine zV_aload_n d_Ro_init_4 rfl ?_
  refine zV_lconst0 d_Ro_init_5 ?_
  refine zV_putl d_Ro_init_6 f_Ro_7 hk ⟨rfl, rfl⟩ ?_
  refine zV_aload_n d_Ro_init_9 rfl ?_
  refine zV_lconst0 d_Ro_init_10 ?_
  refine zV_putl d_Ro_init_11 f_Ro_13 hk ⟨rfl, rfl⟩ ?_
  refine zV_aload_n d_Ro_init_14 rfl ?_
  refine zV_lconst0 d_Ro_init_15 ?_
  refine zV_putl d_Ro_init_16 f_Ro_16 hk ⟨rfl, rfl⟩ ?_
  refine zV_aload_n d_Ro_init_19 rfl ?_
  refine zV_lconst1 d_Ro_init_20 ?_
  refine zV_putl d_Ro_init_21 f_Ro_19 hk ⟨rfl, rfl⟩ ?_
  exact zV_vret d_Ro_init_24 rfl ⟨by decide, by decide⟩ ⟨rfl, rfl, rfl⟩
def wPa_1 (mem : zMem) : zMem := (zup (zup (zupA mem 2 (fun _ => 0)) 1 0 2) 1 1 0)
theorem i_Pa_1 (mem : zMem) : zSp m_Pa_init [(2, 1)] (zSH.take 2) mem (fun r sh m => r = none ∧ sh = zSH.take 3 ∧ m = wPa_1 mem) := by
  refine zSp_of (by decide) (Nat.le_of_ble_eq_true rfl) ?_
  show zV zT m_Pa_init (zSH.take 2) (0, 0) 0 [some (2, 1)] [] mem _
  refine zV_aload_n d_Pa_init_0 rfl ?_
  refine zV_obj d_Pa_init_1 l_Pa_5 zo_inst zo_code rfl (by decide) rfl ⟨by decide, by decide⟩ ?_
  refine zV_aload_n d_Pa_init_4 rfl ?_
  refine zV_bipush d_Pa_init_5 ?_
  refine zV_newa (kd := 12) (m9 := 24) (nI := 2) .int .int (Or.inl ⟨rfl, rfl, rfl⟩) d_Pa_init_7 zw_int ⟨rfl, rfl⟩ rfl ⟨by decide, by decide⟩ ?_
  show zV zT m_Pa_init (zSH.take 3) (1, 24) 9 [some (2, 1)] [(2, 2), (2, 1)] _ _
  refine zV_putF d_Pa_init_9 f_Pa_11 rfl ⟨rfl, rfl, rfl⟩ ?_
  refine zV_aload_n d_Pa_init_12 rfl ?_
  refine zV_iconst d_Pa_init_13 ?_
  refine zV_puti d_Pa_init_14 f_Pa_15 rfl ⟨rfl, rfl⟩ ?_
  exact zV_vret d_Pa_init_17 rfl ⟨by decide, by decide⟩ ⟨rfl, rfl, rfl⟩
def wRw_3 (mem : zMem) : zMem := (zup (wCu (zupA (zup (wCu (zupA (zup (wCu (zupA (zup (wCu (zupA (zup (zup (zupA mem 4 (fun _ => -1)) 3 0 4) 3 1 0) 5 (zblk 0)) 5) 4 0 5) 6 (zblk 0)) 6) 4 1 6) 7 (zblk 0)) 7) 4 2 7) 8 (zblk 0)) 8) 4 3 8)
theorem i_Rw_3 (mem : zMem) : zSp m_Rw_init [(2, 3)] (zSH.take 4) mem (fun r sh m => r = none ∧ sh = zSH.take 9 ∧ m = wRw_3 mem) := by
  refine zSp_of (by decide) (Nat.le_of_ble_eq_true rfl) ?_
  show zV zT m_Rw_init (zSH.take 4) (0, 0) 0 [some (2, 3), none] [] mem _
  refine zV_aload_n d_Rw_init_0 rfl ?_
  refine zV_obj d_Rw_init_1 l_Rw_3 zo_inst zo_code rfl (by decide) rfl ⟨by decide, by decide⟩ ?_
  refine zV_aload_n d_Rw_init_4 rfl ?_
  refine zV_iconst d_Rw_init_5 ?_
  refine zV_anew (kd := 15) (m9 := 4) (nI := 4) "CellPlane$Curve" (Or.inl ⟨rfl, rfl⟩) d_Rw_init_6 c_Rw_9.2.1 ⟨rfl, rfl⟩ rfl ⟨by decide, by decide⟩ ?_
  show zV zT m_Rw_init (zSH.take 5) (1, 4) 9 [some (2, 3), none] [(2, 4), (2, 3)] _ _
  refine zV_putF d_Rw_init_9 f_Rw_11 rfl ⟨rfl, rfl, rfl⟩ ?_
  refine zV_aload_n d_Rw_init_12 rfl ?_
  refine zV_iconst d_Rw_init_13 ?_
  refine zV_puti d_Rw_init_14 f_Rw_17 rfl ⟨rfl, rfl⟩ ?_
  refine zV_iconst d_Rw_init_17 ?_
  refine zV_istore_n (L' := [some (2, 3), some (0, 0)]) d_Rw_init_18 (by decide) rfl ?_
  refine zV_iload_n d_Rw_init_19 rfl ?_
  refine zV_iconst d_Rw_init_20 ?_
  refine zV_icmp_ge d_Rw_init_21 ⟨by decide, by decide⟩ ⟨by decide, by decide⟩ (fun z => absurd z (by decide)) (fun _ => ?_)
  refine zV_aload_n d_Rw_init_24 rfl ?_
  refine zV_getf d_Rw_init_25 f_Rw_11 rfl ?_
  show zV zT m_Rw_init (zSH.take 5) (1, 4) 28 [some (2, 3), some (0, 0)] [(2, 4)] _ _
  refine zV_iload_n d_Rw_init_28 rfl ?_
  refine zV_new (nI := 5) d_Rw_init_29 c_Rw_9 rfl ⟨by decide, by decide⟩ ?_
  show zV zT m_Rw_init (zSH.take 6) (2, 8) 32 [some (2, 3), some (0, 0)] [(2, 5), (0, 0), (2, 4)] _ _
  refine zV_dup d_Rw_init_32 (by decide) ?_
  refine zV_invi m_Cu_init [] d_Rw_init_33 (Or.inr (List.mem_of_getElem? (i := 1) rfl)) k_Cu_init rfl (by decide) rfl rfl rfl rfl (i_Cu _ _ 5 rfl) (fun r9 sh9 m9 hq9 => ?_)
  obtain ⟨rfl, rfl, rfl⟩ := hq9
  show zV zT m_Rw_init (zSH.take 6) (2, 8) 36 [some (2, 3), some (0, 0)] [(2, 5), (0, 0), (2, 4)] _ _
  refine zV_aast (m9 := 4) (m8 := 0) (ck := 0) 15 3 (Or.inl ⟨rfl, rfl, rfl⟩) d_Rw_init_36 rfl rfl ⟨by decide, by decide⟩ rfl ?_
  refine zV_iinc (L' := [some (2, 3), some (0, 1)]) d_Rw_init_37 (by decide) rfl rfl ?_
  refine zV_goto d_Rw_init_40 ?_
  refine zV_iload_n d_Rw_init_19 rfl ?_
  refine zV_iconst d_Rw_init_20 ?_
  refine zV_icmp_ge d_Rw_init_21 ⟨by decide, by decide⟩ ⟨by decide, by decide⟩ (fun z => absurd z (by decide)) (fun _ => ?_)
  refine zV_aload_n d_Rw_init_24 rfl ?_
  refine zV_getf d_Rw_init_25 f_Rw_11 rfl ?_
  show zV zT m_Rw_init (zSH.take 6) (2, 8) 28 [some (2, 3), some (0, 1)] [(2, 4)] _ _
  refine zV_iload_n d_Rw_init_28 rfl ?_
  refine zV_new (nI := 6) d_Rw_init_29 c_Rw_9 rfl ⟨by decide, by decide⟩ ?_
  show zV zT m_Rw_init (zSH.take 7) (3, 12) 32 [some (2, 3), some (0, 1)] [(2, 6), (0, 1), (2, 4)] _ _
  refine zV_dup d_Rw_init_32 (by decide) ?_
  refine zV_invi m_Cu_init [] d_Rw_init_33 (Or.inr (List.mem_of_getElem? (i := 1) rfl)) k_Cu_init rfl (by decide) rfl rfl rfl rfl (i_Cu _ _ 6 rfl) (fun r9 sh9 m9 hq9 => ?_)
  obtain ⟨rfl, rfl, rfl⟩ := hq9
  show zV zT m_Rw_init (zSH.take 7) (3, 12) 36 [some (2, 3), some (0, 1)] [(2, 6), (0, 1), (2, 4)] _ _
  refine zV_aast (m9 := 4) (m8 := 0) (ck := 0) 15 3 (Or.inl ⟨rfl, rfl, rfl⟩) d_Rw_init_36 rfl rfl ⟨by decide, by decide⟩ rfl ?_
  refine zV_iinc (L' := [some (2, 3), some (0, 2)]) d_Rw_init_37 (by decide) rfl rfl ?_
  refine zV_goto d_Rw_init_40 ?_
  refine zV_iload_n d_Rw_init_19 rfl ?_
  refine zV_iconst d_Rw_init_20 ?_
  refine zV_icmp_ge d_Rw_init_21 ⟨by decide, by decide⟩ ⟨by decide, by decide⟩ (fun z => absurd z (by decide)) (fun _ => ?_)
  refine zV_aload_n d_Rw_init_24 rfl ?_
  refine zV_getf d_Rw_init_25 f_Rw_11 rfl ?_
  show zV zT m_Rw_init (zSH.take 7) (3, 12) 28 [some (2, 3), some (0, 2)] [(2, 4)] _ _
  refine zV_iload_n d_Rw_init_28 rfl ?_
  refine zV_new (nI := 7) d_Rw_init_29 c_Rw_9 rfl ⟨by decide, by decide⟩ ?_
  show zV zT m_Rw_init (zSH.take 8) (4, 16) 32 [some (2, 3), some (0, 2)] [(2, 7), (0, 2), (2, 4)] _ _
  refine zV_dup d_Rw_init_32 (by decide) ?_
  refine zV_invi m_Cu_init [] d_Rw_init_33 (Or.inr (List.mem_of_getElem? (i := 1) rfl)) k_Cu_init rfl (by decide) rfl rfl rfl rfl (i_Cu _ _ 7 rfl) (fun r9 sh9 m9 hq9 => ?_)
  obtain ⟨rfl, rfl, rfl⟩ := hq9
  show zV zT m_Rw_init (zSH.take 8) (4, 16) 36 [some (2, 3), some (0, 2)] [(2, 7), (0, 2), (2, 4)] _ _
  refine zV_aast (m9 := 4) (m8 := 0) (ck := 0) 15 3 (Or.inl ⟨rfl, rfl, rfl⟩) d_Rw_init_36 rfl rfl ⟨by decide, by decide⟩ rfl ?_
  refine zV_iinc (L' := [some (2, 3), some (0, 3)]) d_Rw_init_37 (by decide) rfl rfl ?_
  refine zV_goto d_Rw_init_40 ?_
  refine zV_iload_n d_Rw_init_19 rfl ?_
  refine zV_iconst d_Rw_init_20 ?_
  refine zV_icmp_ge d_Rw_init_21 ⟨by decide, by decide⟩ ⟨by decide, by decide⟩ (fun z => absurd z (by decide)) (fun _ => ?_)
  refine zV_aload_n d_Rw_init_24 rfl ?_
  refine zV_getf d_Rw_init_25 f_Rw_11 rfl ?_
  show zV zT m_Rw_init (zSH.take 8) (4, 16) 28 [some (2, 3), some (0, 3)] [(2, 4)] _ _
  refine zV_iload_n d_Rw_init_28 rfl ?_
  refine zV_new (nI := 8) d_Rw_init_29 c_Rw_9 rfl ⟨by decide, by decide⟩ ?_
  show zV zT m_Rw_init (zSH.take 9) (5, 20) 32 [some (2, 3), some (0, 3)] [(2, 8), (0, 3), (2, 4)] _ _
  refine zV_dup d_Rw_init_32 (by decide) ?_
  refine zV_invi m_Cu_init [] d_Rw_init_33 (Or.inr (List.mem_of_getElem? (i := 1) rfl)) k_Cu_init rfl (by decide) rfl rfl rfl rfl (i_Cu _ _ 8 rfl) (fun r9 sh9 m9 hq9 => ?_)
  obtain ⟨rfl, rfl, rfl⟩ := hq9
  show zV zT m_Rw_init (zSH.take 9) (5, 20) 36 [some (2, 3), some (0, 3)] [(2, 8), (0, 3), (2, 4)] _ _
  refine zV_aast (m9 := 4) (m8 := 0) (ck := 0) 15 3 (Or.inl ⟨rfl, rfl, rfl⟩) d_Rw_init_36 rfl rfl ⟨by decide, by decide⟩ rfl ?_
  refine zV_iinc (L' := [some (2, 3), some (0, 4)]) d_Rw_init_37 (by decide) rfl rfl ?_
  refine zV_goto d_Rw_init_40 ?_
  refine zV_iload_n d_Rw_init_19 rfl ?_
  refine zV_iconst d_Rw_init_20 ?_
  refine zV_icmp_ge d_Rw_init_21 ⟨by decide, by decide⟩ ⟨by decide, by decide⟩ (fun _ => ?_) (fun z => absurd z (by decide))
  exact zV_vret d_Rw_init_43 rfl ⟨by decide, by decide⟩ ⟨rfl, rfl, rfl⟩
def wRw_9 (mem : zMem) : zMem := (zup (wCu (zupA (zup (wCu (zupA (zup (wCu (zupA (zup (wCu (zupA (zup (zup (zupA mem 10 (fun _ => -1)) 9 0 10) 9 1 0) 11 (zblk 0)) 11) 10 0 11) 12 (zblk 0)) 12) 10 1 12) 13 (zblk 0)) 13) 10 2 13) 14 (zblk 0)) 14) 10 3 14)
theorem i_Rw_9 (mem : zMem) : zSp m_Rw_init [(2, 9)] (zSH.take 10) mem (fun r sh m => r = none ∧ sh = zSH.take 15 ∧ m = wRw_9 mem) := by
  refine zSp_of (by decide) (Nat.le_of_ble_eq_true rfl) ?_
  show zV zT m_Rw_init (zSH.take 10) (0, 0) 0 [some (2, 9), none] [] mem _
  refine zV_aload_n d_Rw_init_0 rfl ?_
  refine zV_obj d_Rw_init_1 l_Rw_3 zo_inst zo_code rfl (by decide) rfl ⟨by decide, by decide⟩ ?_
  refine zV_aload_n d_Rw_init_4 rfl ?_
  refine zV_iconst d_Rw_init_5 ?_
  refine zV_anew (kd := 15) (m9 := 4) (nI := 10) "CellPlane$Curve" (Or.inl ⟨rfl, rfl⟩) d_Rw_init_6 c_Rw_9.2.1 ⟨rfl, rfl⟩ rfl ⟨by decide, by decide⟩ ?_
  show zV zT m_Rw_init (zSH.take 11) (1, 4) 9 [some (2, 9), none] [(2, 10), (2, 9)] _ _
  refine zV_putF d_Rw_init_9 f_Rw_11 rfl ⟨rfl, rfl, rfl⟩ ?_
  refine zV_aload_n d_Rw_init_12 rfl ?_
  refine zV_iconst d_Rw_init_13 ?_
  refine zV_puti d_Rw_init_14 f_Rw_17 rfl ⟨rfl, rfl⟩ ?_
  refine zV_iconst d_Rw_init_17 ?_
  refine zV_istore_n (L' := [some (2, 9), some (0, 0)]) d_Rw_init_18 (by decide) rfl ?_
  refine zV_iload_n d_Rw_init_19 rfl ?_
  refine zV_iconst d_Rw_init_20 ?_
  refine zV_icmp_ge d_Rw_init_21 ⟨by decide, by decide⟩ ⟨by decide, by decide⟩ (fun z => absurd z (by decide)) (fun _ => ?_)
  refine zV_aload_n d_Rw_init_24 rfl ?_
  refine zV_getf d_Rw_init_25 f_Rw_11 rfl ?_
  show zV zT m_Rw_init (zSH.take 11) (1, 4) 28 [some (2, 9), some (0, 0)] [(2, 10)] _ _
  refine zV_iload_n d_Rw_init_28 rfl ?_
  refine zV_new (nI := 11) d_Rw_init_29 c_Rw_9 rfl ⟨by decide, by decide⟩ ?_
  show zV zT m_Rw_init (zSH.take 12) (2, 8) 32 [some (2, 9), some (0, 0)] [(2, 11), (0, 0), (2, 10)] _ _
  refine zV_dup d_Rw_init_32 (by decide) ?_
  refine zV_invi m_Cu_init [] d_Rw_init_33 (Or.inr (List.mem_of_getElem? (i := 1) rfl)) k_Cu_init rfl (by decide) rfl rfl rfl rfl (i_Cu _ _ 11 rfl) (fun r9 sh9 m9 hq9 => ?_)
  obtain ⟨rfl, rfl, rfl⟩ := hq9
  show zV zT m_Rw_init (zSH.take 12) (2, 8) 36 [some (2, 9), some (0, 0)] [(2, 11), (0, 0), (2, 10)] _ _
  refine zV_aast (m9 := 4) (m8 := 0) (ck := 0) 15 3 (Or.inl ⟨rfl, rfl, rfl⟩) d_Rw_init_36 rfl rfl ⟨by decide, by decide⟩ rfl ?_
  refine zV_iinc (L' := [some (2, 9), some (0, 1)]) d_Rw_init_37 (by decide) rfl rfl ?_
  refine zV_goto d_Rw_init_40 ?_
  refine zV_iload_n d_Rw_init_19 rfl ?_
  refine zV_iconst d_Rw_init_20 ?_
  refine zV_icmp_ge d_Rw_init_21 ⟨by decide, by decide⟩ ⟨by decide, by decide⟩ (fun z => absurd z (by decide)) (fun _ => ?_)
  refine zV_aload_n d_Rw_init_24 rfl ?_
  refine zV_getf d_Rw_init_25 f_Rw_11 rfl ?_
  show zV zT m_Rw_init (zSH.take 12) (2, 8) 28 [some (2, 9), some (0, 1)] [(2, 10)] _ _
  refine zV_iload_n d_Rw_init_28 rfl ?_
  refine zV_new (nI := 12) d_Rw_init_29 c_Rw_9 rfl ⟨by decide, by decide⟩ ?_
  show zV zT m_Rw_init (zSH.take 13) (3, 12) 32 [some (2, 9), some (0, 1)] [(2, 12), (0, 1), (2, 10)] _ _
  refine zV_dup d_Rw_init_32 (by decide) ?_
  refine zV_invi m_Cu_init [] d_Rw_init_33 (Or.inr (List.mem_of_getElem? (i := 1) rfl)) k_Cu_init rfl (by decide) rfl rfl rfl rfl (i_Cu _ _ 12 rfl) (fun r9 sh9 m9 hq9 => ?_)
  obtain ⟨rfl, rfl, rfl⟩ := hq9
  show zV zT m_Rw_init (zSH.take 13) (3, 12) 36 [some (2, 9), some (0, 1)] [(2, 12), (0, 1), (2, 10)] _ _
  refine zV_aast (m9 := 4) (m8 := 0) (ck := 0) 15 3 (Or.inl ⟨rfl, rfl, rfl⟩) d_Rw_init_36 rfl rfl ⟨by decide, by decide⟩ rfl ?_
  refine zV_iinc (L' := [some (2, 9), some (0, 2)]) d_Rw_init_37 (by decide) rfl rfl ?_
  refine zV_goto d_Rw_init_40 ?_
  refine zV_iload_n d_Rw_init_19 rfl ?_
  refine zV_iconst d_Rw_init_20 ?_
  refine zV_icmp_ge d_Rw_init_21 ⟨by decide, by decide⟩ ⟨by decide, by decide⟩ (fun z => absurd z (by decide)) (fun _ => ?_)
  refine zV_aload_n d_Rw_init_24 rfl ?_
  refine zV_getf d_Rw_init_25 f_Rw_11 rfl ?_
  show zV zT m_Rw_init (zSH.take 13) (3, 12) 28 [some (2, 9), some (0, 2)] [(2, 10)] _ _
  refine zV_iload_n d_Rw_init_28 rfl ?_
  refine zV_new (nI := 13) d_Rw_init_29 c_Rw_9 rfl ⟨by decide, by decide⟩ ?_
  show zV zT m_Rw_init (zSH.take 14) (4, 16) 32 [some (2, 9), some (0, 2)] [(2, 13), (0, 2), (2, 10)] _ _
  refine zV_dup d_Rw_init_32 (by decide) ?_
  refine zV_invi m_Cu_init [] d_Rw_init_33 (Or.inr (List.mem_of_getElem? (i := 1) rfl)) k_Cu_init rfl (by decide) rfl rfl rfl rfl (i_Cu _ _ 13 rfl) (fun r9 sh9 m9 hq9 => ?_)
  obtain ⟨rfl, rfl, rfl⟩ := hq9
  show zV zT m_Rw_init (zSH.take 14) (4, 16) 36 [some (2, 9), some (0, 2)] [(2, 13), (0, 2), (2, 10)] _ _
  refine zV_aast (m9 := 4) (m8 := 0) (ck := 0) 15 3 (Or.inl ⟨rfl, rfl, rfl⟩) d_Rw_init_36 rfl rfl ⟨by decide, by decide⟩ rfl ?_
  refine zV_iinc (L' := [some (2, 9), some (0, 3)]) d_Rw_init_37 (by decide) rfl rfl ?_
  refine zV_goto d_Rw_init_40 ?_
  refine zV_iload_n d_Rw_init_19 rfl ?_
  refine zV_iconst d_Rw_init_20 ?_
  refine zV_icmp_ge d_Rw_init_21 ⟨by decide, by decide⟩ ⟨by decide, by decide⟩ (fun z => absurd z (by decide)) (fun _ => ?_)
  refine zV_aload_n d_Rw_init_24 rfl ?_
  refine zV_getf d_Rw_init_25 f_Rw_11 rfl ?_
  show zV zT m_Rw_init (zSH.take 14) (4, 16) 28 [some (2, 9), some (0, 3)] [(2, 10)] _ _
  refine zV_iload_n d_Rw_init_28 rfl ?_
  refine zV_new (nI := 14) d_Rw_init_29 c_Rw_9 rfl ⟨by decide, by decide⟩ ?_
  show zV zT m_Rw_init (zSH.take 15) (5, 20) 32 [some (2, 9), some (0, 3)] [(2, 14), (0, 3), (2, 10)] _ _
  refine zV_dup d_Rw_init_32 (by decide) ?_
  refine zV_invi m_Cu_init [] d_Rw_init_33 (Or.inr (List.mem_of_getElem? (i := 1) rfl)) k_Cu_init rfl (by decide) rfl rfl rfl rfl (i_Cu _ _ 14 rfl) (fun r9 sh9 m9 hq9 => ?_)
  obtain ⟨rfl, rfl, rfl⟩ := hq9
  show zV zT m_Rw_init (zSH.take 15) (5, 20) 36 [some (2, 9), some (0, 3)] [(2, 14), (0, 3), (2, 10)] _ _
  refine zV_aast (m9 := 4) (m8 := 0) (ck := 0) 15 3 (Or.inl ⟨rfl, rfl, rfl⟩) d_Rw_init_36 rfl rfl ⟨by decide, by decide⟩ rfl ?_
  refine zV_iinc (L' := [some (2, 9), some (0, 4)]) d_Rw_init_37 (by decide) rfl rfl ?_
  refine zV_goto d_Rw_init_40 ?_
  refine zV_iload_n d_Rw_init_19 rfl ?_
  refine zV_iconst d_Rw_init_20 ?_
  refine zV_icmp_ge d_Rw_init_21 ⟨by decide, by decide⟩ ⟨by decide, by decide⟩ (fun _ => ?_) (fun z => absurd z (by decide))
  exact zV_vret d_Rw_init_43 rfl ⟨by decide, by decide⟩ ⟨rfl, rfl, rfl⟩
def wRw_15 (mem : zMem) : zMem := (zup (wCu (zupA (zup (wCu (zupA (zup (wCu (zupA (zup (wCu (zupA (zup (zup (zupA mem 16 (fun _ => -1)) 15 0 16) 15 1 0) 17 (zblk 0)) 17) 16 0 17) 18 (zblk 0)) 18) 16 1 18) 19 (zblk 0)) 19) 16 2 19) 20 (zblk 0)) 20) 16 3 20)
theorem i_Rw_15 (mem : zMem) : zSp m_Rw_init [(2, 15)] (zSH.take 16) mem (fun r sh m => r = none ∧ sh = zSH.take 21 ∧ m = wRw_15 mem) := by
  refine zSp_of (by decide) (Nat.le_of_ble_eq_true rfl) ?_
  show zV zT m_Rw_init (zSH.take 16) (0, 0) 0 [some (2, 15), none] [] mem _
  refine zV_aload_n d_Rw_init_0 rfl ?_
  refine zV_obj d_Rw_init_1 l_Rw_3 zo_inst zo_code rfl (by decide) rfl ⟨by decide, by decide⟩ ?_
  refine zV_aload_n d_Rw_init_4 rfl ?_
  refine zV_iconst d_Rw_init_5 ?_
  refine zV_anew (kd := 15) (m9 := 4) (nI := 16) "CellPlane$Curve" (Or.inl ⟨rfl, rfl⟩) d_Rw_init_6 c_Rw_9.2.1 ⟨rfl, rfl⟩ rfl ⟨by decide, by decide⟩ ?_
  show zV zT m_Rw_init (zSH.take 17) (1, 4) 9 [some (2, 15), none] [(2, 16), (2, 15)] _ _
  refine zV_putF d_Rw_init_9 f_Rw_11 rfl ⟨rfl, rfl, rfl⟩ ?_
  refine zV_aload_n d_Rw_init_12 rfl ?_
  refine zV_iconst d_Rw_init_13 ?_
  refine zV_puti d_Rw_init_14 f_Rw_17 rfl ⟨rfl, rfl⟩ ?_
  refine zV_iconst d_Rw_init_17 ?_
  refine zV_istore_n (L' := [some (2, 15), some (0, 0)]) d_Rw_init_18 (by decide) rfl ?_
  refine zV_iload_n d_Rw_init_19 rfl ?_
  refine zV_iconst d_Rw_init_20 ?_
  refine zV_icmp_ge d_Rw_init_21 ⟨by decide, by decide⟩ ⟨by decide, by decide⟩ (fun z => absurd z (by decide)) (fun _ => ?_)
  refine zV_aload_n d_Rw_init_24 rfl ?_
  refine zV_getf d_Rw_init_25 f_Rw_11 rfl ?_
  show zV zT m_Rw_init (zSH.take 17) (1, 4) 28 [some (2, 15), some (0, 0)] [(2, 16)] _ _
  refine zV_iload_n d_Rw_init_28 rfl ?_
  refine zV_new (nI := 17) d_Rw_init_29 c_Rw_9 rfl ⟨by decide, by decide⟩ ?_
  show zV zT m_Rw_init (zSH.take 18) (2, 8) 32 [some (2, 15), some (0, 0)] [(2, 17), (0, 0), (2, 16)] _ _
  refine zV_dup d_Rw_init_32 (by decide) ?_
  refine zV_invi m_Cu_init [] d_Rw_init_33 (Or.inr (List.mem_of_getElem? (i := 1) rfl)) k_Cu_init rfl (by decide) rfl rfl rfl rfl (i_Cu _ _ 17 rfl) (fun r9 sh9 m9 hq9 => ?_)
  obtain ⟨rfl, rfl, rfl⟩ := hq9
  show zV zT m_Rw_init (zSH.take 18) (2, 8) 36 [some (2, 15), some (0, 0)] [(2, 17), (0, 0), (2, 16)] _ _
  refine zV_aast (m9 := 4) (m8 := 0) (ck := 0) 15 3 (Or.inl ⟨rfl, rfl, rfl⟩) d_Rw_init_36 rfl rfl ⟨by decide, by decide⟩ rfl ?_
  refine zV_iinc (L' := [some (2, 15), some (0, 1)]) d_Rw_init_37 (by decide) rfl rfl ?_
  refine zV_goto d_Rw_init_40 ?_
  refine zV_iload_n d_Rw_init_19 rfl ?_
  refine zV_iconst d_Rw_init_20 ?_
  refine zV_icmp_ge d_Rw_init_21 ⟨by decide, by decide⟩ ⟨by decide, by decide⟩ (fun z => absurd z (by decide)) (fun _ => ?_)
  refine zV_aload_n d_Rw_init_24 rfl ?_
  refine zV_getf d_Rw_init_25 f_Rw_11 rfl ?_
  show zV zT m_Rw_init (zSH.take 18) (2, 8) 28 [some (2, 15), some (0, 1)] [(2, 16)] _ _
  refine zV_iload_n d_Rw_init_28 rfl ?_
  refine zV_new (nI := 18) d_Rw_init_29 c_Rw_9 rfl ⟨by decide, by decide⟩ ?_
  show zV zT m_Rw_init (zSH.take 19) (3, 12) 32 [some (2, 15), some (0, 1)] [(2, 18), (0, 1), (2, 16)] _ _
  refine zV_dup d_Rw_init_32 (by decide) ?_
  refine zV_invi m_Cu_init [] d_Rw_init_33 (Or.inr (List.mem_of_getElem? (i := 1) rfl)) k_Cu_init rfl (by decide) rfl rfl rfl rfl (i_Cu _ _ 18 rfl) (fun r9 sh9 m9 hq9 => ?_)
  obtain ⟨rfl, rfl, rfl⟩ := hq9
  show zV zT m_Rw_init (zSH.take 19) (3, 12) 36 [some (2, 15), some (0, 1)] [(2, 18), (0, 1), (2, 16)] _ _
  refine zV_aast (m9 := 4) (m8 := 0) (ck := 0) 15 3 (Or.inl ⟨rfl, rfl, rfl⟩) d_Rw_init_36 rfl rfl ⟨by decide, by decide⟩ rfl ?_
  refine zV_iinc (L' := [some (2, 15), some (0, 2)]) d_Rw_init_37 (by decide) rfl rfl ?_
  refine zV_goto d_Rw_init_40 ?_
  refine zV_iload_n d_Rw_init_19 rfl ?_
  refine zV_iconst d_Rw_init_20 ?_
  refine zV_icmp_ge d_Rw_init_21 ⟨by decide, by decide⟩ ⟨by decide, by decide⟩ (fun z => absurd z (by decide)) (fun _ => ?_)
  refine zV_aload_n d_Rw_init_24 rfl ?_
  refine zV_getf d_Rw_init_25 f_Rw_11 rfl ?_
  show zV zT m_Rw_init (zSH.take 19) (3, 12) 28 [some (2, 15), some (0, 2)] [(2, 16)] _ _
  refine zV_iload_n d_Rw_init_28 rfl ?_
  refine zV_new (nI := 19) d_Rw_init_29 c_Rw_9 rfl ⟨by decide, by decide⟩ ?_
  show zV zT m_Rw_init (zSH.take 20) (4, 16) 32 [some (2, 15), some (0, 2)] [(2, 19), (0, 2), (2, 16)] _ _
  refine zV_dup d_Rw_init_32 (by decide) ?_
  refine zV_invi m_Cu_init [] d_Rw_init_33 (Or.inr (List.mem_of_getElem? (i := 1) rfl)) k_Cu_init rfl (by decide) rfl rfl rfl rfl (i_Cu _ _ 19 rfl) (fun r9 sh9 m9 hq9 => ?_)
  obtain ⟨rfl, rfl, rfl⟩ := hq9
  show zV zT m_Rw_init (zSH.take 20) (4, 16) 36 [some (2, 15), some (0, 2)] [(2, 19), (0, 2), (2, 16)] _ _
  refine zV_aast (m9 := 4) (m8 := 0) (ck := 0) 15 3 (Or.inl ⟨rfl, rfl, rfl⟩) d_Rw_init_36 rfl rfl ⟨by decide, by decide⟩ rfl ?_
  refine zV_iinc (L' := [some (2, 15), some (0, 3)]) d_Rw_init_37 (by decide) rfl rfl ?_
  refine zV_goto d_Rw_init_40 ?_
  refine zV_iload_n d_Rw_init_19 rfl ?_
  refine zV_iconst d_Rw_init_20 ?_
  refine zV_icmp_ge d_Rw_init_21 ⟨by decide, by decide⟩ ⟨by decide, by decide⟩ (fun z => absurd z (by decide)) (fun _ => ?_)
  refine zV_aload_n d_Rw_init_24 rfl ?_
  refine zV_getf d_Rw_init_25 f_Rw_11 rfl ?_
  show zV zT m_Rw_init (zSH.take 20) (4, 16) 28 [some (2, 15), some (0, 3)] [(2, 16)] _ _
  refine zV_iload_n d_Rw_init_28 rfl ?_
  refine zV_new (nI := 20) d_Rw_init_29 c_Rw_9 rfl ⟨by decide, by decide⟩ ?_
  show zV zT m_Rw_init (zSH.take 21) (5, 20) 32 [some (2, 15), some (0, 3)] [(2, 20), (0, 3), (2, 16)] _ _
  refine zV_dup d_Rw_init_32 (by decide) ?_
  refine zV_invi m_Cu_init [] d_Rw_init_33 (Or.inr (List.mem_of_getElem? (i := 1) rfl)) k_Cu_init rfl (by decide) rfl rfl rfl rfl (i_Cu _ _ 20 rfl) (fun r9 sh9 m9 hq9 => ?_)
  obtain ⟨rfl, rfl, rfl⟩ := hq9
  show zV zT m_Rw_init (zSH.take 21) (5, 20) 36 [some (2, 15), some (0, 3)] [(2, 20), (0, 3), (2, 16)] _ _
  refine zV_aast (m9 := 4) (m8 := 0) (ck := 0) 15 3 (Or.inl ⟨rfl, rfl, rfl⟩) d_Rw_init_36 rfl rfl ⟨by decide, by decide⟩ rfl ?_
  refine zV_iinc (L' := [some (2, 15), some (0, 4)]) d_Rw_init_37 (by decide) rfl rfl ?_
  refine zV_goto d_Rw_init_40 ?_
  refine zV_iload_n d_Rw_init_19 rfl ?_
  refine zV_iconst d_Rw_init_20 ?_
  refine zV_icmp_ge d_Rw_init_21 ⟨by decide, by decide⟩ ⟨by decide, by decide⟩ (fun _ => ?_) (fun z => absurd z (by decide))
  exact zV_vret d_Rw_init_43 rfl ⟨by decide, by decide⟩ ⟨rfl, rfl, rfl⟩
def wSe_21 (mem : zMem) : zMem := (zup (zup (zupA (zup (zupA (zup (zupA (zup (zupA mem 22 (fun _ => 0)) 21 0 22) 23 (fun _ => 0)) 21 1 23) 24 (fun _ => 0)) 21 2 24) 25 (fun _ => 0)) 21 3 25) 21 4 0)
theorem i_Se_21 (mem : zMem) : zSp m_Se_init [(2, 21)] (zSH.take 22) mem (fun r sh m => r = none ∧ sh = zSH.take 26 ∧ m = wSe_21 mem) := by
  refine zSp_of (by decide) (Nat.le_of_ble_eq_true rfl) ?_
  show zV zT m_Se_init (zSH.take 22) (0, 0) 0 [some (2, 21)] [] mem _
  refine zV_aload_n d_Se_init_0 rfl ?_
  refine zV_obj d_Se_init_1 l_Se_3 zo_inst zo_code rfl (by decide) rfl ⟨by decide, by decide⟩ ?_
  refine zV_aload_n d_Se_init_4 rfl ?_
  refine zV_bipush d_Se_init_5 ?_
  refine zV_newa (kd := 12) (m9 := 6) (nI := 22) .int .int (Or.inl ⟨rfl, rfl, rfl⟩) d_Se_init_7 zw_int ⟨rfl, rfl⟩ rfl ⟨by decide, by decide⟩ ?_
  show zV zT m_Se_init (zSH.take 23) (1, 6) 9 [some (2, 21)] [(2, 22), (2, 21)] _ _
  refine zV_putF d_Se_init_9 f_Se_9 rfl ⟨rfl, rfl, rfl⟩ ?_
  refine zV_aload_n d_Se_init_12 rfl ?_
  refine zV_bipush d_Se_init_13 ?_
  refine zV_newa (kd := 12) (m9 := 6) (nI := 23) .int .int (Or.inl ⟨rfl, rfl, rfl⟩) d_Se_init_15 zw_int ⟨rfl, rfl⟩ rfl ⟨by decide, by decide⟩ ?_
  show zV zT m_Se_init (zSH.take 24) (2, 12) 17 [some (2, 21)] [(2, 23), (2, 21)] _ _
  refine zV_putF d_Se_init_17 f_Se_15 rfl ⟨rfl, rfl, rfl⟩ ?_
  refine zV_aload_n d_Se_init_20 rfl ?_
  refine zV_bipush d_Se_init_21 ?_
  refine zV_newa (kd := 12) (m9 := 6) (nI := 24) .int .int (Or.inl ⟨rfl, rfl, rfl⟩) d_Se_init_23 zw_int ⟨rfl, rfl⟩ rfl ⟨by decide, by decide⟩ ?_
  show zV zT m_Se_init (zSH.take 25) (3, 18) 25 [some (2, 21)] [(2, 24), (2, 21)] _ _
  refine zV_putF d_Se_init_25 f_Se_18 rfl ⟨rfl, rfl, rfl⟩ ?_
  refine zV_aload_n d_Se_init_28 rfl ?_
  refine zV_bipush d_Se_init_29 ?_
  refine zV_newa (kd := 12) (m9 := 6) (nI := 25) .int .int (Or.inl ⟨rfl, rfl, rfl⟩) d_Se_init_31 zw_int ⟨rfl, rfl⟩ rfl ⟨by decide, by decide⟩ ?_
  show zV zT m_Se_init (zSH.take 26) (4, 24) 33 [some (2, 21)] [(2, 25), (2, 21)] _ _
  refine zV_putF d_Se_init_33 f_Se_21 rfl ⟨rfl, rfl, rfl⟩ ?_
  refine zV_aload_n d_Se_init_36 rfl ?_
  refine zV_iconst d_Se_init_37 ?_
  refine zV_puti d_Se_init_38 f_Se_24 rfl ⟨rfl, rfl⟩ ?_
  exact zV_vret d_Se_init_41 rfl ⟨by decide, by decide⟩ ⟨rfl, rfl, rfl⟩
def wSe_26 (mem : zMem) : zMem := (zup (zup (zupA (zup (zupA (zup (zupA (zup (zupA mem 27 (fun _ => 0)) 26 0 27) 28 (fun _ => 0)) 26 1 28) 29 (fun _ => 0)) 26 2 29) 30 (fun _ => 0)) 26 3 30) 26 4 0)
theorem i_Se_26 (mem : zMem) : zSp m_Se_init [(2, 26)] (zSH.take 27) mem (fun r sh m => r = none ∧ sh = zSH.take 31 ∧ m = wSe_26 mem) := by
  refine zSp_of (by decide) (Nat.le_of_ble_eq_true rfl) ?_
  show zV zT m_Se_init (zSH.take 27) (0, 0) 0 [some (2, 26)] [] mem _
  refine zV_aload_n d_Se_init_0 rfl ?_
  refine zV_obj d_Se_init_1 l_Se_3 zo_inst zo_code rfl (by decide) rfl ⟨by decide, by decide⟩ ?_
  refine zV_aload_n d_Se_init_4 rfl ?_
  refine zV_bipush d_Se_init_5 ?_
  refine zV_newa (kd := 12) (m9 := 6) (nI := 27) .int .int (Or.inl ⟨rfl, rfl, rfl⟩) d_Se_init_7 zw_int ⟨rfl, rfl⟩ rfl ⟨by decide, by decide⟩ ?_
  show zV zT m_Se_init (zSH.take 28) (1, 6) 9 [some (2, 26)] [(2, 27), (2, 26)] _ _
  refine zV_putF d_Se_init_9 f_Se_9 rfl ⟨rfl, rfl, rfl⟩ ?_
  refine zV_aload_n d_Se_init_12 rfl ?_
  refine zV_bipush d_Se_init_13 ?_
  refine zV_newa (kd := 12) (m9 := 6) (nI := 28) .int .int (Or.inl ⟨rfl, rfl, rfl⟩) d_Se_init_15 zw_int ⟨rfl, rfl⟩ rfl ⟨by decide, by decide⟩ ?_
  show zV zT m_Se_init (zSH.take 29) (2, 12) 17 [some (2, 26)] [(2, 28), (2, 26)] _ _
  refine zV_putF d_Se_init_17 f_Se_15 rfl ⟨rfl, rfl, rfl⟩ ?_
  refine zV_aload_n d_Se_init_20 rfl ?_
  refine zV_bipush d_Se_init_21 ?_
  refine zV_newa (kd := 12) (m9 := 6) (nI := 29) .int .int (Or.inl ⟨rfl, rfl, rfl⟩) d_Se_init_23 zw_int ⟨rfl, rfl⟩ rfl ⟨by decide, by decide⟩ ?_
  show zV zT m_Se_init (zSH.take 30) (3, 18) 25 [some (2, 26)] [(2, 29), (2, 26)] _ _
  refine zV_putF d_Se_init_25 f_Se_18 rfl ⟨rfl, rfl, rfl⟩ ?_
  refine zV_aload_n d_Se_init_28 rfl ?_
  refine zV_bipush d_Se_init_29 ?_
  refine zV_newa (kd := 12) (m9 := 6) (nI := 30) .int .int (Or.inl ⟨rfl, rfl, rfl⟩) d_Se_init_31 zw_int ⟨rfl, rfl⟩ rfl ⟨by decide, by decide⟩ ?_
  show zV zT m_Se_init (zSH.take 31) (4, 24) 33 [some (2, 26)] [(2, 30), (2, 26)] _ _
  refine zV_putF d_Se_init_33 f_Se_21 rfl ⟨rfl, rfl, rfl⟩ ?_
  refine zV_aload_n d_Se_init_36 rfl ?_
  refine zV_iconst d_Se_init_37 ?_
  refine zV_puti d_Se_init_38 f_Se_24 rfl ⟨rfl, rfl⟩ ?_
  exact zV_vret d_Se_init_41 rfl ⟨by decide, by decide⟩ ⟨rfl, rfl, rfl⟩
def wFo_73 (mem : zMem) : zMem := (zup (zup (zupA mem 74 (fun _ => 0)) 73 0 74) 73 1 1)
theorem i_Fo_73 (mem : zMem) : zSp m_Fo_init [(2, 73)] (zSH.take 74) mem (fun r sh m => r = none ∧ sh = zSH.take 75 ∧ m = wFo_73 mem) := by
  refine zSp_of (by decide) (Nat.le_of_ble_eq_true rfl) ?_
  show zV zT m_Fo_init (zSH.take 74) (0, 0) 0 [some (2, 73)] [] mem _
  refine zV_aload_n d_Fo_init_0 rfl ?_
  refine zV_obj d_Fo_init_1 l_Fo_3 zo_inst zo_code rfl (by decide) rfl ⟨by decide, by decide⟩ ?_
  refine zV_aload_n d_Fo_init_4 rfl ?_
  refine zV_iconst d_Fo_init_5 ?_
  refine zV_newa (kd := 12) (m9 := 4) (nI := 74) .int .int (Or.inl ⟨rfl, rfl, rfl⟩) d_Fo_init_6 zw_int ⟨rfl, rfl⟩ rfl ⟨by decide, by decide⟩ ?_
  show zV zT m_Fo_init (zSH.take 75) (1, 4) 8 [some (2, 73)] [(2, 74), (2, 73)] _ _
  refine zV_putF d_Fo_init_8 f_Fo_9 rfl ⟨rfl, rfl, rfl⟩ ?_
  refine zV_aload_n d_Fo_init_11 rfl ?_
  refine zV_iconst d_Fo_init_12 ?_
  refine zV_putz d_Fo_init_13 f_Fo_15 rfl ⟨rfl, rfl⟩ (Or.inr rfl) ?_
  exact zV_vret d_Fo_init_16 rfl ⟨by decide, by decide⟩ ⟨rfl, rfl, rfl⟩
def wGr_75 (mem : zMem) : zMem := (zup (zup (zupA mem 76 (fun _ => 0)) 75 0 76) 75 1 0)
theorem i_Gr_75 (mem : zMem) : zSp m_Gr_init [(2, 75)] (zSH.take 76) mem (fun r sh m => r = none ∧ sh = zSH.take 77 ∧ m = wGr_75 mem) := by
  refine zSp_of (by decide) (Nat.le_of_ble_eq_true rfl) ?_
  show zV zT m_Gr_init (zSH.take 76) (0, 0) 0 [some (2, 75)] [] mem _
  refine zV_aload_n d_Gr_init_0 rfl ?_
  refine zV_obj d_Gr_init_1 l_Gr_3 zo_inst zo_code rfl (by decide) rfl ⟨by decide, by decide⟩ ?_
  refine zV_aload_n d_Gr_init_4 rfl ?_
  refine zV_sipush d_Gr_init_5 ?_
  refine zV_newa (kd := 12) (m9 := 225) (nI := 76) .int .int (Or.inl ⟨rfl, rfl, rfl⟩) d_Gr_init_8 zw_int ⟨rfl, rfl⟩ rfl ⟨by decide, by decide⟩ ?_
  show zV zT m_Gr_init (zSH.take 77) (1, 225) 10 [some (2, 75)] [(2, 76), (2, 75)] _ _
  refine zV_putF d_Gr_init_10 f_Gr_9 rfl ⟨rfl, rfl, rfl⟩ ?_
  refine zV_aload_n d_Gr_init_13 rfl ?_
  refine zV_iconst d_Gr_init_14 ?_
  refine zV_puti d_Gr_init_15 f_Gr_15 rfl ⟨rfl, rfl⟩ ?_
  exact zV_vret d_Gr_init_18 rfl ⟨by decide, by decide⟩ ⟨rfl, rfl, rfl⟩
def wDi_77 (mem : zMem) : zMem := (zup mem 77 0 1)
theorem i_Di_77 (mem : zMem) : zSp m_Di_init [(2, 77)] (zSH.take 78) mem (fun r sh m => r = none ∧ sh = zSH.take 78 ∧ m = wDi_77 mem) := by
  refine zSp_of (by decide) (Nat.le_of_ble_eq_true rfl) ?_
  show zV zT m_Di_init (zSH.take 78) (0, 0) 0 [some (2, 77)] [] mem _
  refine zV_aload_n d_Di_init_0 rfl ?_
  refine zV_obj d_Di_init_1 l_Di_1 zo_inst zo_code rfl (by decide) rfl ⟨by decide, by decide⟩ ?_
  refine zV_aload_n d_Di_init_4 rfl ?_
  refine zV_lconst1 d_Di_init_5 ?_
  refine zV_putl d_Di_init_6 f_Di_7 rfl ⟨rfl, rfl⟩ ?_
  exact zV_vret d_Di_init_9 rfl ⟨by decide, by decide⟩ ⟨rfl, rfl, rfl⟩
def wRi_78 (mem : zMem) : zMem := (zup (zup (zup (zupA mem 79 (fun _ => 0)) 78 0 79) 78 1 0) 78 2 0)
theorem i_Ri_78 (mem : zMem) : zSp m_Ri_init [(2, 78)] (zSH.take 79) mem (fun r sh m => r = none ∧ sh = zSH.take 80 ∧ m = wRi_78 mem) := by
  refine zSp_of (by decide) (Nat.le_of_ble_eq_true rfl) ?_
  show zV zT m_Ri_init (zSH.take 79) (0, 0) 0 [some (2, 78)] [] mem _
  refine zV_aload_n d_Ri_init_0 rfl ?_
  refine zV_obj d_Ri_init_1 l_Ri_3 zo_inst zo_code rfl (by decide) rfl ⟨by decide, by decide⟩ ?_
  refine zV_aload_n d_Ri_init_4 rfl ?_
  refine zV_bipush d_Ri_init_5 ?_
  refine zV_newa (kd := 12) (m9 := 8) (nI := 79) .int .int (Or.inl ⟨rfl, rfl, rfl⟩) d_Ri_init_7 zw_int ⟨rfl, rfl⟩ rfl ⟨by decide, by decide⟩ ?_
  show zV zT m_Ri_init (zSH.take 80) (1, 8) 9 [some (2, 78)] [(2, 79), (2, 78)] _ _
  refine zV_putF d_Ri_init_9 f_Ri_9 rfl ⟨rfl, rfl, rfl⟩ ?_
  refine zV_aload_n d_Ri_init_12 rfl ?_
  refine zV_iconst d_Ri_init_13 ?_
  refine zV_puti d_Ri_init_14 f_Ri_15 rfl ⟨rfl, rfl⟩ ?_
  refine zV_aload_n d_Ri_init_17 rfl ?_
  refine zV_iconst d_Ri_init_18 ?_
  refine zV_puti d_Ri_init_19 f_Ri_19 rfl ⟨rfl, rfl⟩ ?_
  exact zV_vret d_Ri_init_22 rfl ⟨by decide, by decide⟩ ⟨rfl, rfl, rfl⟩
def wMo_80 (mem : zMem) : zMem := (zup (zup (zup (zup (zupA (zup (zupA (zup (zupA (zup (zupA (zup (zupA (zup (zupA (zup (zupA (zup (zupA (zup (zupA (zup (zupA (zup (zupA (zup (zupA (zup (zupA (zup (zupA (zup (zupA (zup (zupA (zup (zupA (zup (zupA (zup (zupA mem 81 (fun _ => 0)) 80 0 81) 82 (fun _ => 0)) 80 5 82) 83 (fun _ => 0)) 80 6 83) 84 (fun _ => 0)) 80 7 84) 85 (fun _ => 0)) 80 8 85) 86 (fun _ => 0)) 80 10 86) 87 (fun _ => 0)) 80 11 87) 88 (fun _ => 0)) 80 12 88) 89 (fun _ => 0)) 80 13 89) 90 (fun _ => 0)) 80 16 90) 91 (fun _ => 0)) 80 17 91) 92 (fun _ => 0)) 80 19 92) 93 (fun _ => 0)) 80 21 93) 94 (fun _ => 0)) 80 23 94) 95 (fun _ => 0)) 80 28 95) 96 (fun _ => 0)) 80 29 96) 97 (fun _ => 0)) 80 30 97) 98 (fun _ => 0)) 80 31 98) 99 (fun _ => 0)) 80 32 99) 80 25 (-1)) 80 4 1) 80 24 1)
theorem i_Mo_80 (mem : zMem) : zSp m_Mo_init [(2, 80)] (zSH.take 81) mem (fun r sh m => r = none ∧ sh = zSH.take 100 ∧ m = wMo_80 mem) := by
  refine zSp_of (by decide) (Nat.le_of_ble_eq_true rfl) ?_
  show zV zT m_Mo_init (zSH.take 81) (0, 0) 0 [some (2, 80)] [] mem _
  refine zV_aload_n d_Mo_init_0 rfl ?_
  refine zV_obj d_Mo_init_1 l_Mo_1 zo_inst zo_code rfl (by decide) rfl ⟨by decide, by decide⟩ ?_
  refine zV_aload_n d_Mo_init_4 rfl ?_
  refine zV_bipush d_Mo_init_5 ?_
  refine zV_newa (kd := 12) (m9 := 24) (nI := 81) .int .int (Or.inl ⟨rfl, rfl, rfl⟩) d_Mo_init_7 zw_int ⟨rfl, rfl⟩ rfl ⟨by decide, by decide⟩ ?_
  show zV zT m_Mo_init (zSH.take 82) (1, 24) 9 [some (2, 80)] [(2, 81), (2, 80)] _ _
  refine zV_putF d_Mo_init_9 f_Mo_7 rfl ⟨rfl, rfl, rfl⟩ ?_
  refine zV_aload_n d_Mo_init_12 rfl ?_
  refine zV_iconst d_Mo_init_13 ?_
  refine zV_newa (kd := 12) (m9 := 4) (nI := 82) .int .int (Or.inl ⟨rfl, rfl, rfl⟩) d_Mo_init_14 zw_int ⟨rfl, rfl⟩ rfl ⟨by decide, by decide⟩ ?_
  show zV zT m_Mo_init (zSH.take 83) (2, 28) 16 [some (2, 80)] [(2, 82), (2, 80)] _ _
  refine zV_putF d_Mo_init_16 f_Mo_13 rfl ⟨rfl, rfl, rfl⟩ ?_
  refine zV_aload_n d_Mo_init_19 rfl ?_
  refine zV_iconst d_Mo_init_20 ?_
  refine zV_newa (kd := 12) (m9 := 4) (nI := 83) .int .int (Or.inl ⟨rfl, rfl, rfl⟩) d_Mo_init_21 zw_int ⟨rfl, rfl⟩ rfl ⟨by decide, by decide⟩ ?_
  show zV zT m_Mo_init (zSH.take 84) (3, 32) 23 [some (2, 80)] [(2, 83), (2, 80)] _ _
  refine zV_putF d_Mo_init_23 f_Mo_16 rfl ⟨rfl, rfl, rfl⟩ ?_
  refine zV_aload_n d_Mo_init_26 rfl ?_
  refine zV_iconst d_Mo_init_27 ?_
  refine zV_newa (kd := 12) (m9 := 4) (nI := 84) .int .int (Or.inl ⟨rfl, rfl, rfl⟩) d_Mo_init_28 zw_int ⟨rfl, rfl⟩ rfl ⟨by decide, by decide⟩ ?_
  show zV zT m_Mo_init (zSH.take 85) (4, 36) 30 [some (2, 80)] [(2, 84), (2, 80)] _ _
  refine zV_putF d_Mo_init_30 f_Mo_19 rfl ⟨rfl, rfl, rfl⟩ ?_
  refine zV_aload_n d_Mo_init_33 rfl ?_
  refine zV_iconst d_Mo_init_34 ?_
  refine zV_newa (kd := 12) (m9 := 4) (nI := 85) .int .int (Or.inl ⟨rfl, rfl, rfl⟩) d_Mo_init_35 zw_int ⟨rfl, rfl⟩ rfl ⟨by decide, by decide⟩ ?_
  show zV zT m_Mo_init (zSH.take 86) (5, 40) 37 [some (2, 80)] [(2, 85), (2, 80)] _ _
  refine zV_putF d_Mo_init_37 f_Mo_22 rfl ⟨rfl, rfl, rfl⟩ ?_
  refine zV_aload_n d_Mo_init_40 rfl ?_
  refine zV_bipush d_Mo_init_41 ?_
  refine zV_newa (kd := 13) (m9 := 64) (nI := 86) .long .long (Or.inr (Or.inl ⟨rfl, rfl, rfl⟩)) d_Mo_init_43 zw_long ⟨rfl, rfl⟩ rfl ⟨by decide, by decide⟩ ?_
  show zV zT m_Mo_init (zSH.take 87) (6, 104) 45 [some (2, 80)] [(2, 86), (2, 80)] _ _
  refine zV_putF d_Mo_init_45 f_Mo_25 rfl ⟨rfl, rfl, rfl⟩ ?_
  refine zV_aload_n d_Mo_init_48 rfl ?_
  refine zV_bipush d_Mo_init_49 ?_
  refine zV_newa (kd := 13) (m9 := 64) (nI := 87) .long .long (Or.inr (Or.inl ⟨rfl, rfl, rfl⟩)) d_Mo_init_51 zw_long ⟨rfl, rfl⟩ rfl ⟨by decide, by decide⟩ ?_
  show zV zT m_Mo_init (zSH.take 88) (7, 168) 53 [some (2, 80)] [(2, 87), (2, 80)] _ _
  refine zV_putF d_Mo_init_53 f_Mo_29 rfl ⟨rfl, rfl, rfl⟩ ?_
  refine zV_aload_n d_Mo_init_56 rfl ?_
  refine zV_bipush d_Mo_init_57 ?_
  refine zV_newa (kd := 13) (m9 := 64) (nI := 88) .long .long (Or.inr (Or.inl ⟨rfl, rfl, rfl⟩)) d_Mo_init_59 zw_long ⟨rfl, rfl⟩ rfl ⟨by decide, by decide⟩ ?_
  show zV zT m_Mo_init (zSH.take 89) (8, 232) 61 [some (2, 80)] [(2, 88), (2, 80)] _ _
  refine zV_putF d_Mo_init_61 f_Mo_32 rfl ⟨rfl, rfl, rfl⟩ ?_
  refine zV_aload_n d_Mo_init_64 rfl ?_
  refine zV_bipush d_Mo_init_65 ?_
  refine zV_newa (kd := 13) (m9 := 64) (nI := 89) .long .long (Or.inr (Or.inl ⟨rfl, rfl, rfl⟩)) d_Mo_init_67 zw_long ⟨rfl, rfl⟩ rfl ⟨by decide, by decide⟩ ?_
  show zV zT m_Mo_init (zSH.take 90) (9, 296) 69 [some (2, 80)] [(2, 89), (2, 80)] _ _
  refine zV_putF d_Mo_init_69 f_Mo_35 rfl ⟨rfl, rfl, rfl⟩ ?_
  refine zV_aload_n d_Mo_init_72 rfl ?_
  refine zV_sipush d_Mo_init_73 ?_
  refine zV_newa (kd := 12) (m9 := 160) (nI := 90) .int .int (Or.inl ⟨rfl, rfl, rfl⟩) d_Mo_init_76 zw_int ⟨rfl, rfl⟩ rfl ⟨by decide, by decide⟩ ?_
  show zV zT m_Mo_init (zSH.take 91) (10, 456) 78 [some (2, 80)] [(2, 90), (2, 80)] _ _
  refine zV_putF d_Mo_init_78 f_Mo_38 rfl ⟨rfl, rfl, rfl⟩ ?_
  refine zV_aload_n d_Mo_init_81 rfl ?_
  refine zV_bipush d_Mo_init_82 ?_
  refine zV_newa (kd := 12) (m9 := 40) (nI := 91) .int .int (Or.inl ⟨rfl, rfl, rfl⟩) d_Mo_init_84 zw_int ⟨rfl, rfl⟩ rfl ⟨by decide, by decide⟩ ?_
  show zV zT m_Mo_init (zSH.take 92) (11, 496) 86 [some (2, 80)] [(2, 91), (2, 80)] _ _
  refine zV_putF d_Mo_init_86 f_Mo_41 rfl ⟨rfl, rfl, rfl⟩ ?_
  refine zV_aload_n d_Mo_init_89 rfl ?_
  refine zV_bipush d_Mo_init_90 ?_
  refine zV_newa (kd := 12) (m9 := 8) (nI := 92) .int .int (Or.inl ⟨rfl, rfl, rfl⟩) d_Mo_init_92 zw_int ⟨rfl, rfl⟩ rfl ⟨by decide, by decide⟩ ?_
  show zV zT m_Mo_init (zSH.take 93) (12, 504) 94 [some (2, 80)] [(2, 92), (2, 80)] _ _
  refine zV_putF d_Mo_init_94 f_Mo_44 rfl ⟨rfl, rfl, rfl⟩ ?_
  refine zV_aload_n d_Mo_init_97 rfl ?_
  refine zV_sipush d_Mo_init_98 ?_
  refine zV_newa (kd := 12) (m9 := 360) (nI := 93) .int .int (Or.inl ⟨rfl, rfl, rfl⟩) d_Mo_init_101 zw_int ⟨rfl, rfl⟩ rfl ⟨by decide, by decide⟩ ?_
  show zV zT m_Mo_init (zSH.take 94) (13, 864) 103 [some (2, 80)] [(2, 93), (2, 80)] _ _
  refine zV_putF d_Mo_init_103 f_Mo_47 rfl ⟨rfl, rfl, rfl⟩ ?_
  refine zV_aload_n d_Mo_init_106 rfl ?_
  refine zV_bipush d_Mo_init_107 ?_
  refine zV_newa (kd := 12) (m9 := 24) (nI := 94) .int .int (Or.inl ⟨rfl, rfl, rfl⟩) d_Mo_init_109 zw_int ⟨rfl, rfl⟩ rfl ⟨by decide, by decide⟩ ?_
  show zV zT m_Mo_init (zSH.take 95) (14, 888) 111 [some (2, 80)] [(2, 94), (2, 80)] _ _
  refine zV_putF d_Mo_init_111 f_Mo_50 rfl ⟨rfl, rfl, rfl⟩ ?_
  refine zV_aload_n d_Mo_init_114 rfl ?_
  refine zV_iconst d_Mo_init_115 ?_
  refine zV_newa (kd := 12) (m9 := 4) (nI := 95) .int .int (Or.inl ⟨rfl, rfl, rfl⟩) d_Mo_init_116 zw_int ⟨rfl, rfl⟩ rfl ⟨by decide, by decide⟩ ?_
  show zV zT m_Mo_init (zSH.take 96) (15, 892) 118 [some (2, 80)] [(2, 95), (2, 80)] _ _
  refine zV_putF d_Mo_init_118 f_Mo_53 rfl ⟨rfl, rfl, rfl⟩ ?_
  refine zV_aload_n d_Mo_init_121 rfl ?_
  refine zV_iconst d_Mo_init_122 ?_
  refine zV_newa (kd := 12) (m9 := 4) (nI := 96) .int .int (Or.inl ⟨rfl, rfl, rfl⟩) d_Mo_init_123 zw_int ⟨rfl, rfl⟩ rfl ⟨by decide, by decide⟩ ?_
  show zV zT m_Mo_init (zSH.take 97) (16, 896) 125 [some (2, 80)] [(2, 96), (2, 80)] _ _
  refine zV_putF d_Mo_init_125 f_Mo_56 rfl ⟨rfl, rfl, rfl⟩ ?_
  refine zV_aload_n d_Mo_init_128 rfl ?_
  refine zV_iconst d_Mo_init_129 ?_
  refine zV_newa (kd := 12) (m9 := 4) (nI := 97) .int .int (Or.inl ⟨rfl, rfl, rfl⟩) d_Mo_init_130 zw_int ⟨rfl, rfl⟩ rfl ⟨by decide, by decide⟩ ?_
  show zV zT m_Mo_init (zSH.take 98) (17, 900) 132 [some (2, 80)] [(2, 97), (2, 80)] _ _
  refine zV_putF d_Mo_init_132 f_Mo_59 rfl ⟨rfl, rfl, rfl⟩ ?_
  refine zV_aload_n d_Mo_init_135 rfl ?_
  refine zV_iconst d_Mo_init_136 ?_
  refine zV_newa (kd := 12) (m9 := 4) (nI := 98) .int .int (Or.inl ⟨rfl, rfl, rfl⟩) d_Mo_init_137 zw_int ⟨rfl, rfl⟩ rfl ⟨by decide, by decide⟩ ?_
  show zV zT m_Mo_init (zSH.take 99) (18, 904) 139 [some (2, 80)] [(2, 98), (2, 80)] _ _
  refine zV_putF d_Mo_init_139 f_Mo_62 rfl ⟨rfl, rfl, rfl⟩ ?_
  refine zV_aload_n d_Mo_init_142 rfl ?_
  refine zV_bipush d_Mo_init_143 ?_
  refine zV_newa (kd := 12) (m9 := 24) (nI := 99) .int .int (Or.inl ⟨rfl, rfl, rfl⟩) d_Mo_init_145 zw_int ⟨rfl, rfl⟩ rfl ⟨by decide, by decide⟩ ?_
  show zV zT m_Mo_init (zSH.take 100) (19, 928) 147 [some (2, 80)] [(2, 99), (2, 80)] _ _
  refine zV_putF d_Mo_init_147 f_Mo_65 rfl ⟨rfl, rfl, rfl⟩ ?_
  refine zV_aload_n d_Mo_init_150 rfl ?_
  refine zV_iconst d_Mo_init_151 ?_
  refine zV_puti d_Mo_init_152 f_Mo_68 rfl ⟨rfl, rfl⟩ ?_
  refine zV_aload_n d_Mo_init_155 rfl ?_
  refine zV_iconst d_Mo_init_156 ?_
  refine zV_puti d_Mo_init_157 f_Mo_72 rfl ⟨rfl, rfl⟩ ?_
  refine zV_aload_n d_Mo_init_160 rfl ?_
  refine zV_iconst d_Mo_init_161 ?_
  refine zV_puti d_Mo_init_162 f_Mo_75 rfl ⟨rfl, rfl⟩ ?_
  exact zV_vret d_Mo_init_165 rfl ⟨by decide, by decide⟩ ⟨rfl, rfl, rfl⟩
