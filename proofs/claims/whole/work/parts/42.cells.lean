/-! the plane's own methods: cells, points, letters, sights -/
theorem s_Cp_cell (mem : zMem) (s j c : Int) (hs : I32 s) (hj : I32 j) (hc : I32 c) (hT : okT mem 31) (hr : 0 ≤ mem 3 1 ∧ mem 3 1 ≤ 4) : zF m_Cp_cell [(2, 0), (0, s), (0, j), (0, c)] mem (fun r m => r = some (0, if (0 ≤ s ∧ s < mem 31 2 ∧ 0 ≤ j ∧ j ≤ mem (31 + 2) s) ∧ 0 ≤ c ∧ c < mem 3 1 then sdS mem 31 s j c else -101) ∧ m = mem) := by
  have t2 := hT.2.1
  refine zF_of (by decide) (Nat.le_of_ble_eq_true rfl) ?_
  show zS zT m_Cp_cell (0, 0) 0 [some (2, 0), some (0, s), some (0, j), some (0, c)] [] mem _
  refine zV_aload_n d_Cp_cell_0 rfl ?_
  refine zS_getr (r := 31) d_Cp_cell_1 f_Cp_42 rfl rfl rfl ?_
  refine zV_iload_n d_Cp_cell_4 rfl ?_
  refine zV_iload_n d_Cp_cell_5 rfl ?_
  refine zS_invvE (mt' := m_St_hasCell) (avs := [(0, s), (0, j)]) (st := []) d_Cp_cell_6 l_Cp_184 k_St_hasCell rfl rfl rfl rfl rfl (s_St_hasCell mem 31 s j (Or.inl rfl) hT hs hj) ?_
  show zS zT m_Cp_cell (0, 0) 9 [some (2, 0), some (0, s), some (0, j), some (0, c)] [(0, (zb (0 ≤ s ∧ s < mem 31 2 ∧ 0 ≤ j ∧ j ≤ mem (31 + 2) s)))] mem _
  refine zV_ifb_eq d_Cp_cell_9 (fun c9 => ?_) (fun c9 => ?_)
  · refine zV_bipush d_Cp_cell_23 ?_
    exact zS_iret d_Cp_cell_25 rfl ⟨Nat.zero_le _, Nat.zero_le _⟩ (by refine ⟨?_, rfl⟩; (repeat' split) <;> first | rfl | (exfalso; omega))
  · refine zV_aload_n d_Cp_cell_12 rfl ?_
    refine zS_getr (r := 3) d_Cp_cell_13 f_Cp_19 rfl rfl rfl ?_
    refine zV_iload_n d_Cp_cell_16 rfl ?_
    refine zS_invvE (mt' := m_Rw_has) (avs := [(0, c)]) (st := []) d_Cp_cell_17 l_Cp_123 k_Rw_has rfl rfl rfl rfl rfl (s_Rw_has mem 3 c (Or.inl rfl) (by omega) (by omega)) ?_
    show zS zT m_Cp_cell (0, 0) 20 [some (2, 0), some (0, s), some (0, j), some (0, c)] [(0, (zb (0 ≤ c ∧ c < mem 3 1)))] mem _
    refine zV_ifb_ne d_Cp_cell_20 (fun c20 => ?_) (fun c20 => ?_)
    · refine zV_aload_n d_Cp_cell_26 rfl ?_
      refine zS_getr (r := 31) d_Cp_cell_27 f_Cp_42 rfl rfl rfl ?_
      refine zV_iload_n d_Cp_cell_30 rfl ?_
      refine zV_iload_n d_Cp_cell_31 rfl ?_
      refine zV_iload_n d_Cp_cell_32 rfl ?_
      refine zS_invvE (mt' := m_St_sideOf) (avs := [(0, s), (0, j), (0, c)]) (st := []) d_Cp_cell_33 l_Cp_188 k_St_sideOf rfl rfl rfl rfl rfl (s_St_sideOf mem 31 s j c (Or.inl rfl) hT (by omega) hj (by omega)) ?_
      show zS zT m_Cp_cell (0, 0) 36 [some (2, 0), some (0, s), some (0, j), some (0, c)] [(0, (sdS mem 31 s j c))] mem _
      exact zS_iret d_Cp_cell_36 rfl ⟨Nat.zero_le _, Nat.zero_le _⟩ (by refine ⟨?_, rfl⟩; (repeat' split) <;> first | rfl | (exfalso; omega))
    · refine zV_bipush d_Cp_cell_23 ?_
      exact zS_iret d_Cp_cell_25 rfl ⟨Nat.zero_le _, Nat.zero_le _⟩ (by refine ⟨?_, rfl⟩; (repeat' split) <;> first | rfl | (exfalso; omega))
theorem s_Cp_neighbours (mem : zMem) (s j : Int) (hs : I32 s) (hj : I32 j) (hT : okT mem 31) : zF m_Cp_neighbours [(2, 0), (0, s), (0, j)] mem (fun r m => r = some (0, if 0 ≤ s ∧ s < mem 31 2 ∧ 0 ≤ j ∧ j ≤ mem (31 + 2) s then nbA mem 31 s j else -101) ∧ m = mem) := by
  refine zF_of (by decide) (Nat.le_of_ble_eq_true rfl) ?_
  show zS zT m_Cp_neighbours (0, 0) 0 [some (2, 0), some (0, s), some (0, j)] [] mem _
  refine zV_aload_n d_Cp_neighbours_0 rfl ?_
  refine zS_getr (r := 31) d_Cp_neighbours_1 f_Cp_42 rfl rfl rfl ?_
  refine zV_iload_n d_Cp_neighbours_4 rfl ?_
  refine zV_iload_n d_Cp_neighbours_5 rfl ?_
  refine zS_invvE (mt' := m_St_hasCell) (avs := [(0, s), (0, j)]) (st := []) d_Cp_neighbours_6 l_Cp_184 k_St_hasCell rfl rfl rfl rfl rfl (s_St_hasCell mem 31 s j (Or.inl rfl) hT hs hj) ?_
  show zS zT m_Cp_neighbours (0, 0) 9 [some (2, 0), some (0, s), some (0, j)] [(0, (zb (0 ≤ s ∧ s < mem 31 2 ∧ 0 ≤ j ∧ j ≤ mem (31 + 2) s)))] mem _
  refine zV_ifb_eq d_Cp_neighbours_9 (fun c9 => ?_) (fun c9 => ?_)
  · refine zV_bipush d_Cp_neighbours_24 ?_
    exact zS_iret d_Cp_neighbours_26 rfl ⟨Nat.zero_le _, Nat.zero_le _⟩ (by refine ⟨?_, rfl⟩; (repeat' split) <;> first | rfl | (exfalso; omega))
  · refine zV_aload_n d_Cp_neighbours_12 rfl ?_
    refine zS_getr (r := 31) d_Cp_neighbours_13 f_Cp_42 rfl rfl rfl ?_
    refine zV_iload_n d_Cp_neighbours_16 rfl ?_
    refine zV_iload_n d_Cp_neighbours_17 rfl ?_
    refine zS_invvE (mt' := m_St_neighboursOf) (avs := [(0, s), (0, j)]) (st := []) d_Cp_neighbours_18 l_Cp_192 k_St_neighboursOf rfl rfl rfl rfl rfl (s_St_neighboursOf mem 31 s j (Or.inl rfl) hT (by omega) (by omega)) ?_
    show zS zT m_Cp_neighbours (0, 0) 21 [some (2, 0), some (0, s), some (0, j)] [(0, (nbA mem 31 s j))] mem _
    refine zV_goto d_Cp_neighbours_21 ?_
    exact zS_iret d_Cp_neighbours_26 rfl ⟨Nat.zero_le _, Nat.zero_le _⟩ (by refine ⟨?_, rfl⟩; (repeat' split) <;> first | rfl | (exfalso; omega))
theorem zup_11 {mem : zMem} {a v w : Int} : zup (zup mem 2 a v) 1 1 w 1 1 = w := zup_s
noncomputable def leM (mem : zMem) (c : Int) : zMem := cif ((1 ≤ c ∧ c ≤ 126) ∧ mem 1 1 < 24) (zup (zup mem 2 (mem 1 1) c) 1 1 (mem 1 1 + 1)) mem
def leR (mem : zMem) (c : Int) : Int := if 1 ≤ c ∧ c ≤ 126 then (if mem 1 1 < 24 then mem 1 1 + 1 else -104) else -102
theorem s_Cp_point (mem : zMem) (p w : Int) (hp : I32 p) (hw : I32 w) (hT : okT mem 31) (hR : RT mem 31) (pt : Int → Pt) (hP : PTS mem 31 pt) : zF m_Cp_point [(2, 0), (0, p), (0, w)] mem (fun r m => r = some (0, if 0 ≤ p ∧ p < mem 31 1 then (if w = 0 then 100000 + thP (pt p) else if w = 1 then zb ((pt p).2.1 = 0) else if w = 2 then pmA mem 31 p else if w = 3 then upA mem 31 p else -102) else -101) ∧ m = mem) := by
  have t1 := hT.1
  have hp0 : 0 ≤ p → p < mem 31 1 → (pt p).2.1 = mem (mem (31 + 1) p) 1 := fun q1 q2 => by rw [← (hP p q1 q2).2]; rfl
  refine zF_of (by decide) (Nat.le_of_ble_eq_true rfl) ?_
  show zS zT m_Cp_point (0, 0) 0 [some (2, 0), some (0, p), some (0, w)] [] mem _
  refine zV_iload_n d_Cp_point_0 rfl ?_
  refine zV_if_lt d_Cp_point_1 (by omega) (fun c1 => ?_) (fun c1 => ?_)
  · refine zV_bipush d_Cp_point_15 ?_
    exact zS_iret d_Cp_point_17 rfl ⟨Nat.zero_le _, Nat.zero_le _⟩ (by refine ⟨?_, rfl⟩; rw [if_neg (by omega)])
  · refine zV_iload_n d_Cp_point_4 rfl ?_
    refine zV_aload_n d_Cp_point_5 rfl ?_
    refine zS_getr (r := 31) d_Cp_point_6 f_Cp_42 rfl rfl rfl ?_
    refine zS_get d_Cp_point_9 f_Cp_157 rfl rfl ?_
    refine zV_icmp_lt d_Cp_point_12 (by omega) (by omega) (fun c12 => ?_) (fun c12 => ?_)
    · refine zV_iload_n d_Cp_point_18 rfl ?_
      by_cases c19_0 : w = 0
      · refine zV_tsIn (off := 29) (tgt := 48) d_Cp_point_19 (by omega) c19_0 (by decide) ?_
        refine zV_ldc (a := 100000) d_Cp_point_48 n_Cp_160 rfl ?_
        refine zV_aload_n d_Cp_point_50 rfl ?_
        refine zS_getr (r := 31) d_Cp_point_51 f_Cp_42 rfl rfl rfl ?_
        refine zS_getr (r := 32) d_Cp_point_54 f_Cp_161 rfl rfl rfl ?_
        refine zV_iload_n d_Cp_point_57 rfl ?_
        refine zS_ald16 d_Cp_point_58 rfl rfl ⟨by omega, by omega⟩ ?_
        refine zS_invvE (mt' := m_Ro_thousandths) (avs := []) (st := [(0, 100000)]) d_Cp_point_59 l_Cp_165 k_Ro_thousandths (kRoc (t := 31) (Or.inl rfl) (hR.1 p (by omega) (by omega))) rfl rfl rfl rfl (s_Ro_thousandths mem (mem (31 + 1) p) (kRoc (t := 31) (Or.inl rfl) (hR.1 p (by omega) (by omega))) (by rw [(hP p (by omega) (by omega)).2]; exact (hP p (by omega) (by omega)).1)) ?_
        show zS zT m_Cp_point (0, 0) 62 [some (2, 0), some (0, p), some (0, w)] [(0, (thP (rP mem (mem (31 + 1) p)))), (0, 100000)] mem _
        refine zV_iadd d_Cp_point_62 ?_
        exact zS_iret d_Cp_point_63 rfl ⟨Nat.zero_le _, Nat.zero_le _⟩ (by refine ⟨?_, rfl⟩; rw [if_pos (by omega), if_pos (by omega), ← (hP p (by omega) (by omega)).2])
      by_cases c19_1 : w = 1
      · refine zV_tsIn (off := 45) (tgt := 64) d_Cp_point_19 (by omega) c19_1 (by decide) ?_
        refine zV_aload_n d_Cp_point_64 rfl ?_
        refine zS_getr (r := 31) d_Cp_point_65 f_Cp_42 rfl rfl rfl ?_
        refine zS_getr (r := 32) d_Cp_point_68 f_Cp_161 rfl rfl rfl ?_
        refine zV_iload_n d_Cp_point_71 rfl ?_
        refine zS_ald16 d_Cp_point_72 rfl rfl ⟨by omega, by omega⟩ ?_
        refine zS_invvE (mt' := m_Ro_isFraction) (avs := []) (st := []) d_Cp_point_73 l_Cp_170 k_Ro_isFraction (kRoc (t := 31) (Or.inl rfl) (hR.1 p (by omega) (by omega))) rfl rfl rfl rfl (s_Ro_isFraction mem (mem (31 + 1) p) (kRoc (t := 31) (Or.inl rfl) (hR.1 p (by omega) (by omega))) (by have z := (hP p (by omega) (by omega)).1.2.1; rw [← (hP p (by omega) (by omega)).2] at z; unfold rP at z; simp only at z; omega)) ?_
        show zS zT m_Cp_point (0, 0) 76 [some (2, 0), some (0, p), some (0, w)] [(0, (zb (mem (mem (31 + 1) p) 1 = 0)))] mem _
        refine zV_ifb_eq d_Cp_point_76 (fun c76 => ?_) (fun c76 => ?_)
        · refine zV_iconst d_Cp_point_83 ?_
          exact zS_iret d_Cp_point_84 rfl ⟨Nat.zero_le _, Nat.zero_le _⟩ (by refine ⟨?_, rfl⟩; rw [if_pos (by omega), if_neg (by omega), if_pos (by omega)]; first | rw [zb_t (by rw [hp0 (by omega) (by omega)]; assumption)] | rw [zb_f (by rw [hp0 (by omega) (by omega)]; assumption)])
        · refine zV_iconst d_Cp_point_79 ?_
          refine zV_goto d_Cp_point_80 ?_
          exact zS_iret d_Cp_point_84 rfl ⟨Nat.zero_le _, Nat.zero_le _⟩ (by refine ⟨?_, rfl⟩; rw [if_pos (by omega), if_neg (by omega), if_pos (by omega)]; first | rw [zb_t (by rw [hp0 (by omega) (by omega)]; assumption)] | rw [zb_f (by rw [hp0 (by omega) (by omega)]; assumption)])
      by_cases c19_2 : w = 2
      · refine zV_tsIn (off := 66) (tgt := 85) d_Cp_point_19 (by omega) c19_2 (by decide) ?_
        refine zV_aload_n d_Cp_point_85 rfl ?_
        refine zS_getr (r := 31) d_Cp_point_86 f_Cp_42 rfl rfl rfl ?_
        refine zV_iload_n d_Cp_point_89 rfl ?_
        refine zS_invvE (mt' := m_St_pairsMeetingAt) (avs := [(0, p)]) (st := []) d_Cp_point_90 l_Cp_173 k_St_pairsMeetingAt rfl rfl rfl rfl rfl (s_St_pairsMeetingAt mem 31 p (Or.inl rfl) hT (by omega)) ?_
        show zS zT m_Cp_point (0, 0) 93 [some (2, 0), some (0, p), some (0, w)] [(0, (pmA mem 31 p))] mem _
        exact zS_iret d_Cp_point_93 rfl ⟨Nat.zero_le _, Nat.zero_le _⟩ (by refine ⟨?_, rfl⟩; rw [if_pos (by omega), if_neg (by omega), if_neg (by omega), if_pos (by omega)])
      by_cases c19_3 : w = 3
      · refine zV_tsIn (off := 75) (tgt := 94) d_Cp_point_19 (by omega) c19_3 (by decide) ?_
        refine zV_aload_n d_Cp_point_94 rfl ?_
        refine zS_getr (r := 31) d_Cp_point_95 f_Cp_42 rfl rfl rfl ?_
        refine zV_iload_n d_Cp_point_98 rfl ?_
        refine zS_invvE (mt' := m_St_uprightsAt) (avs := [(0, p)]) (st := []) d_Cp_point_99 l_Cp_176 k_St_uprightsAt rfl rfl rfl rfl rfl (s_St_uprightsAt mem 31 p (Or.inl rfl) hT (by omega)) ?_
        show zS zT m_Cp_point (0, 0) 102 [some (2, 0), some (0, p), some (0, w)] [(0, (upA mem 31 p))] mem _
        exact zS_iret d_Cp_point_102 rfl ⟨Nat.zero_le _, Nat.zero_le _⟩ (by refine ⟨?_, rfl⟩; rw [if_pos (by omega), if_neg (by omega), if_neg (by omega), if_neg (by omega), if_pos (by omega)])
      refine zV_tsOut (tgt := 103) d_Cp_point_19 (by omega) (by omega) (by decide) ?_
      refine zV_bipush d_Cp_point_103 ?_
      exact zS_iret d_Cp_point_105 rfl ⟨Nat.zero_le _, Nat.zero_le _⟩ (by refine ⟨?_, rfl⟩; rw [if_pos (by omega), if_neg (by omega), if_neg (by omega), if_neg (by omega), if_neg (by omega)])
    · refine zV_bipush d_Cp_point_15 ?_
      exact zS_iret d_Cp_point_17 rfl ⟨Nat.zero_le _, Nat.zero_le _⟩ (by refine ⟨?_, rfl⟩; rw [if_neg (by omega)])
