/-! stacks, built: where two curves meet -/
noncomputable def meQ (s : PtS) (A B C : Int) : PtS := if A = 0 then enR s (-C) 0 0 B else if B * B - 4 * A * C < 0 then s else if rtD (B * B - 4 * A * C) * rtD (B * B - 4 * A * C) = B * B - 4 * A * C then enR (enR s (-B - rtD (B * B - 4 * A * C)) 0 0 (2 * A)) (-B + rtD (B * B - 4 * A * C)) 0 0 (2 * A) else enR (enR s (-B) (-1) (B * B - 4 * A * C) (2 * A)) (-B) 1 (B * B - 4 * A * C) (2 * A)
noncomputable def meP (mem : zMem) (t : Int) (s : PtS) (a b : Int) : PtS := cif (mem (t + 4) a = 1 ∨ mem (t + 4) b = 1) s (meQ s (mem (t + 5) a - mem (t + 5) b) (mem (t + 6) a - mem (t + 6) b) (mem (t + 7) a - mem (t + 7) b))
theorem okP_tn {w y d q : Int} (hw : -40 ≤ w ∧ w ≤ 40) (hy : y = -1 ∨ y = 0 ∨ y = 1) (hd : 0 ≤ d ∧ d ≤ 500) (hq : -18 ≤ q ∧ q ≤ 18) (h0 : q ≠ 0) : okP (tn q * w, tn q * y, d, tn q * q) := by
  unfold okP tn
  show (-40 ≤ (if q < 0 then -1 else 1) * w ∧ (if q < 0 then -1 else 1) * w ≤ 40) ∧ ((if q < 0 then -1 else 1) * y = -1 ∨ (if q < 0 then -1 else 1) * y = 0 ∨ (if q < 0 then -1 else 1) * y = 1) ∧ (0 ≤ d ∧ d ≤ 500) ∧ (1 ≤ (if q < 0 then -1 else 1) * q ∧ (if q < 0 then -1 else 1) * q ≤ 18)
  split <;> omega
theorem sq_21 {r u : Int} (h : r * r = u) (hu : u ≤ 468) : r ≤ 21 := by
  refine Classical.byContradiction fun z => ?_
  have h22 : (22 : Int) ≤ r := by omega
  have := Int.mul_le_mul h22 h22 (by decide) (by omega)
  omega
theorem s_St_meet (mem : zMem) (t a b : Int) (h : isSt t) (hC : okC mem t) (ha : 0 ≤ a ∧ a < 4) (hb : 0 ≤ b ∧ b < 4) (s : PtS) (hs : PS mem t s) : zF m_St_meet [(2, t), (0, a), (0, b)] mem (fun r m => r = none ∧ PS m t (meP mem t s a b) ∧ frE t mem m) := by
  obtain ⟨c1, c2⟩ := id hC
  have ga := c2 a ha.1 ha.2
  have gb := c2 b hb.1 hb.2
  have n1 := mb (A := 18) (B := 18) (a := (mem (t + 6) a - mem (t + 6) b)) (b := (mem (t + 6) a - mem (t + 6) b)) (by omega) (by omega)
  have n2 := mb (A := 8) (B := 18) (a := 4 * (mem (t + 5) a - mem (t + 5) b)) (b := (mem (t + 7) a - mem (t + 7) b)) (by omega) (by omega)
  have n3 := rtD_r ((mem (t + 6) a - mem (t + 6) b) * (mem (t + 6) a - mem (t + 6) b) - 4 * (mem (t + 5) a - mem (t + 5) b) * (mem (t + 7) a - mem (t + 7) b))
  have n4 := mb (A := 65535) (B := 65535) (a := rtD ((mem (t + 6) a - mem (t + 6) b) * (mem (t + 6) a - mem (t + 6) b) - 4 * (mem (t + 5) a - mem (t + 5) b) * (mem (t + 7) a - mem (t + 7) b))) (b := rtD ((mem (t + 6) a - mem (t + 6) b) * (mem (t + 6) a - mem (t + 6) b) - 4 * (mem (t + 5) a - mem (t + 5) b) * (mem (t + 7) a - mem (t + 7) b))) (by omega) (by omega)
  have n5 : rtD ((mem (t + 6) a - mem (t + 6) b) * (mem (t + 6) a - mem (t + 6) b) - 4 * (mem (t + 5) a - mem (t + 5) b) * (mem (t + 7) a - mem (t + 7) b)) * rtD ((mem (t + 6) a - mem (t + 6) b) * (mem (t + 6) a - mem (t + 6) b) - 4 * (mem (t + 5) a - mem (t + 5) b) * (mem (t + 7) a - mem (t + 7) b)) = ((mem (t + 6) a - mem (t + 6) b) * (mem (t + 6) a - mem (t + 6) b) - 4 * (mem (t + 5) a - mem (t + 5) b) * (mem (t + 7) a - mem (t + 7) b)) → rtD ((mem (t + 6) a - mem (t + 6) b) * (mem (t + 6) a - mem (t + 6) b) - 4 * (mem (t + 5) a - mem (t + 5) b) * (mem (t + 7) a - mem (t + 7) b)) ≤ 21 := fun z => sq_21 z (by omega)
  have n6 : -(mem (t + 6) a - mem (t + 6) b) = 0 - (mem (t + 6) a - mem (t + 6) b) := by omega
  refine zF_of (by decide) (Nat.le_of_ble_eq_true rfl) ?_
  show zS zT m_St_meet (0, 0) 0 [some (2, t), some (0, a), some (0, b), none, none, none, none, none, none, none, none, none, none] [] mem _
  refine zV_aload_n d_St_meet_0 rfl ?_
  refine zS_getr (r := (t + 4)) d_St_meet_1 f_St_34 (kSt0 h) rfl rfl ?_
  refine zV_iload_n d_St_meet_4 rfl ?_
  refine zS_zald d_St_meet_5 (kSt4 h) rfl ⟨by omega, by omega⟩ ?_
  refine zV_if_ne d_St_meet_6 (by omega) (fun c6 => ?_) (fun c6 => ?_)
  · exact zS_vret d_St_meet_18 rfl ⟨Nat.zero_le _, Nat.zero_le _⟩ (by unfold meP; rw [cif_t (by omega)]; exact ⟨rfl, hs, frE_r _ _⟩)
  · refine zV_aload_n d_St_meet_9 rfl ?_
    refine zS_getr (r := (t + 4)) d_St_meet_10 f_St_34 (kSt0 h) rfl rfl ?_
    refine zV_iload_n d_St_meet_13 rfl ?_
    refine zS_zald d_St_meet_14 (kSt4 h) rfl ⟨by omega, by omega⟩ ?_
    refine zV_if_eq d_St_meet_15 (by omega) (fun c15 => ?_) (fun c15 => ?_)
    · refine zV_aload_n d_St_meet_19 rfl ?_
      refine zS_getr (r := (t + 5)) d_St_meet_20 f_St_38 (kSt0 h) rfl rfl ?_
      refine zV_iload_n d_St_meet_23 rfl ?_
      refine zS_iald d_St_meet_24 (kSt5 h) rfl ⟨by omega, by omega⟩ ?_
      refine zV_aload_n d_St_meet_25 rfl ?_
      refine zS_getr (r := (t + 5)) d_St_meet_26 f_St_38 (kSt0 h) rfl rfl ?_
      refine zV_iload_n d_St_meet_29 rfl ?_
      refine zS_iald d_St_meet_30 (kSt5 h) rfl ⟨by omega, by omega⟩ ?_
      refine zV_isub d_St_meet_31 ?_
      refine zV_i2l d_St_meet_32 (by omega) ?_
      refine zV_lstore_n (L' := [some (2, t), some (0, a), some (0, b), some (1, ((mem (t + 5) a) - (mem (t + 5) b))), none, none, none, none, none, none, none, none, none]) d_St_meet_33 (by decide) rfl ?_
      refine zV_aload_n d_St_meet_34 rfl ?_
      refine zS_getr (r := (t + 6)) d_St_meet_35 f_St_41 (kSt0 h) rfl rfl ?_
      refine zV_iload_n d_St_meet_38 rfl ?_
      refine zS_iald d_St_meet_39 (kSt6 h) rfl ⟨by omega, by omega⟩ ?_
      refine zV_aload_n d_St_meet_40 rfl ?_
      refine zS_getr (r := (t + 6)) d_St_meet_41 f_St_41 (kSt0 h) rfl rfl ?_
      refine zV_iload_n d_St_meet_44 rfl ?_
      refine zS_iald d_St_meet_45 (kSt6 h) rfl ⟨by omega, by omega⟩ ?_
      refine zV_isub d_St_meet_46 ?_
      refine zV_i2l d_St_meet_47 (by omega) ?_
      refine zV_lstore (L' := [some (2, t), some (0, a), some (0, b), some (1, ((mem (t + 5) a) - (mem (t + 5) b))), none, some (1, ((mem (t + 6) a) - (mem (t + 6) b))), none, none, none, none, none, none, none]) d_St_meet_48 (by decide) rfl ?_
      refine zV_aload_n d_St_meet_50 rfl ?_
      refine zS_getr (r := (t + 7)) d_St_meet_51 f_St_44 (kSt0 h) rfl rfl ?_
      refine zV_iload_n d_St_meet_54 rfl ?_
      refine zS_iald d_St_meet_55 (kSt7 h) rfl ⟨by omega, by omega⟩ ?_
      refine zV_aload_n d_St_meet_56 rfl ?_
      refine zS_getr (r := (t + 7)) d_St_meet_57 f_St_44 (kSt0 h) rfl rfl ?_
      refine zV_iload_n d_St_meet_60 rfl ?_
      refine zS_iald d_St_meet_61 (kSt7 h) rfl ⟨by omega, by omega⟩ ?_
      refine zV_isub d_St_meet_62 ?_
      refine zV_i2l d_St_meet_63 (by omega) ?_
      refine zV_lstore (L' := [some (2, t), some (0, a), some (0, b), some (1, ((mem (t + 5) a) - (mem (t + 5) b))), none, some (1, ((mem (t + 6) a) - (mem (t + 6) b))), none, some (1, ((mem (t + 7) a) - (mem (t + 7) b))), none, none, none, none, none]) d_St_meet_64 (by decide) rfl ?_
      refine zV_lload_n d_St_meet_66 rfl ?_
      refine zV_lconst0 d_St_meet_67 ?_
      refine zV_lcmp_ne d_St_meet_68 d_St_meet_69 (by omega) (by omega) (fun c68 => ?_) (fun c68 => ?_)
      · refine zV_lload d_St_meet_84 rfl ?_
        refine zV_lload d_St_meet_86 rfl ?_
        refine zV_lmul d_St_meet_88 ?_
        refine zV_ldc2 (a := 4) d_St_meet_89 n_St_106 rfl ?_
        refine zV_lload_n d_St_meet_92 rfl ?_
        refine zV_lmul d_St_meet_93 ?_
        refine zV_lload d_St_meet_94 rfl ?_
        refine zV_lmul d_St_meet_96 ?_
        refine zV_lsub d_St_meet_97 ?_
        refine zV_lstore (L' := [some (2, t), some (0, a), some (0, b), some (1, ((mem (t + 5) a) - (mem (t + 5) b))), none, some (1, ((mem (t + 6) a) - (mem (t + 6) b))), none, some (1, ((mem (t + 7) a) - (mem (t + 7) b))), none, some (1, ((((mem (t + 6) a) - (mem (t + 6) b)) * ((mem (t + 6) a) - (mem (t + 6) b))) - ((4 * ((mem (t + 5) a) - (mem (t + 5) b))) * ((mem (t + 7) a) - (mem (t + 7) b))))), none, none, none]) d_St_meet_98 (by decide) rfl ?_
        refine zV_lload d_St_meet_100 rfl ?_
        refine zV_lconst0 d_St_meet_102 ?_
        refine zV_lcmp_ge d_St_meet_103 d_St_meet_104 (by omega) (by omega) (fun c103 => ?_) (fun c103 => ?_)
        · refine zV_lload d_St_meet_108 rfl ?_
          refine zS_invsE (mt' := m_Ex_rootDown) (avs := [(1, ((((mem (t + 6) a) - (mem (t + 6) b)) * ((mem (t + 6) a) - (mem (t + 6) b))) - ((4 * ((mem (t + 5) a) - (mem (t + 5) b))) * ((mem (t + 7) a) - (mem (t + 7) b)))))]) (st := []) d_St_meet_110 l_St_108 k_Ex_rootDown rfl rfl rfl rfl (s_Ex_rootDown mem ((((mem (t + 6) a) - (mem (t + 6) b)) * ((mem (t + 6) a) - (mem (t + 6) b))) - ((4 * ((mem (t + 5) a) - (mem (t + 5) b))) * ((mem (t + 7) a) - (mem (t + 7) b)))) (by omega)) ?_
          show zS zT m_St_meet (0, 0) 113 [some (2, t), some (0, a), some (0, b), some (1, ((mem (t + 5) a) - (mem (t + 5) b))), none, some (1, ((mem (t + 6) a) - (mem (t + 6) b))), none, some (1, ((mem (t + 7) a) - (mem (t + 7) b))), none, some (1, ((((mem (t + 6) a) - (mem (t + 6) b)) * ((mem (t + 6) a) - (mem (t + 6) b))) - ((4 * ((mem (t + 5) a) - (mem (t + 5) b))) * ((mem (t + 7) a) - (mem (t + 7) b))))), none, none, none] [(1, (rtD ((((mem (t + 6) a) - (mem (t + 6) b)) * ((mem (t + 6) a) - (mem (t + 6) b))) - ((4 * ((mem (t + 5) a) - (mem (t + 5) b))) * ((mem (t + 7) a) - (mem (t + 7) b))))))] mem _
          refine zV_lstore (L' := [some (2, t), some (0, a), some (0, b), some (1, ((mem (t + 5) a) - (mem (t + 5) b))), none, some (1, ((mem (t + 6) a) - (mem (t + 6) b))), none, some (1, ((mem (t + 7) a) - (mem (t + 7) b))), none, some (1, ((((mem (t + 6) a) - (mem (t + 6) b)) * ((mem (t + 6) a) - (mem (t + 6) b))) - ((4 * ((mem (t + 5) a) - (mem (t + 5) b))) * ((mem (t + 7) a) - (mem (t + 7) b))))), none, some (1, (rtD ((((mem (t + 6) a) - (mem (t + 6) b)) * ((mem (t + 6) a) - (mem (t + 6) b))) - ((4 * ((mem (t + 5) a) - (mem (t + 5) b))) * ((mem (t + 7) a) - (mem (t + 7) b)))))), none]) d_St_meet_113 (by decide) rfl ?_
          refine zV_lload d_St_meet_115 rfl ?_
          refine zV_lload d_St_meet_117 rfl ?_
          refine zV_lmul d_St_meet_119 ?_
          refine zV_lload d_St_meet_120 rfl ?_
          refine zV_lcmp_ne d_St_meet_122 d_St_meet_123 (by omega) (by omega) (fun c122 => ?_) (fun c122 => ?_)
          · refine zV_aload_n d_St_meet_163 rfl ?_
            refine zV_lload d_St_meet_164 rfl ?_
            refine zV_lneg d_St_meet_166 ?_
            refine zV_ldc2 (a := (-1)) d_St_meet_167 n_St_116 rfl ?_
            refine zV_lload d_St_meet_170 rfl ?_
            refine zV_ldc2 (a := 2) d_St_meet_172 n_St_114 rfl ?_
            refine zV_lload_n d_St_meet_175 rfl ?_
            refine zV_lmul d_St_meet_176 ?_
            refine zS_invv (mt' := m_St_enter) (avs := [(1, (-((mem (t + 6) a) - (mem (t + 6) b)))), (1, (-1)), (1, ((((mem (t + 6) a) - (mem (t + 6) b)) * ((mem (t + 6) a) - (mem (t + 6) b))) - ((4 * ((mem (t + 5) a) - (mem (t + 5) b))) * ((mem (t + 7) a) - (mem (t + 7) b))))), (1, (2 * ((mem (t + 5) a) - (mem (t + 5) b))))]) (st := []) d_St_meet_177 l_St_55 k_St_enter (kSt0 h) rfl rfl rfl rfl (s_St_enter mem t (-((mem (t + 6) a) - (mem (t + 6) b))) (-1) ((((mem (t + 6) a) - (mem (t + 6) b)) * ((mem (t + 6) a) - (mem (t + 6) b))) - ((4 * ((mem (t + 5) a) - (mem (t + 5) b))) * ((mem (t + 7) a) - (mem (t + 7) b)))) (2 * ((mem (t + 5) a) - (mem (t + 5) b))) h (by omega) s hs (fun z => okP_tn (by omega) (by omega) (by omega) (by omega) z)) (fun r9 m8 hq9 => ?_)
            obtain ⟨rfl, hp1, hf1⟩ := hq9
            show zS zT m_St_meet (0, 0) 180 [some (2, t), some (0, a), some (0, b), some (1, ((mem (t + 5) a) - (mem (t + 5) b))), none, some (1, ((mem (t + 6) a) - (mem (t + 6) b))), none, some (1, ((mem (t + 7) a) - (mem (t + 7) b))), none, some (1, ((((mem (t + 6) a) - (mem (t + 6) b)) * ((mem (t + 6) a) - (mem (t + 6) b))) - ((4 * ((mem (t + 5) a) - (mem (t + 5) b))) * ((mem (t + 7) a) - (mem (t + 7) b))))), none, some (1, (rtD ((((mem (t + 6) a) - (mem (t + 6) b)) * ((mem (t + 6) a) - (mem (t + 6) b))) - ((4 * ((mem (t + 5) a) - (mem (t + 5) b))) * ((mem (t + 7) a) - (mem (t + 7) b)))))), none] [] m8 _
            refine zV_aload_n d_St_meet_180 rfl ?_
            refine zV_lload d_St_meet_181 rfl ?_
            refine zV_lneg d_St_meet_183 ?_
            refine zV_lconst1 d_St_meet_184 ?_
            refine zV_lload d_St_meet_185 rfl ?_
            refine zV_ldc2 (a := 2) d_St_meet_187 n_St_114 rfl ?_
            refine zV_lload_n d_St_meet_190 rfl ?_
            refine zV_lmul d_St_meet_191 ?_
            refine zS_invv (mt' := m_St_enter) (avs := [(1, (-((mem (t + 6) a) - (mem (t + 6) b)))), (1, 1), (1, ((((mem (t + 6) a) - (mem (t + 6) b)) * ((mem (t + 6) a) - (mem (t + 6) b))) - ((4 * ((mem (t + 5) a) - (mem (t + 5) b))) * ((mem (t + 7) a) - (mem (t + 7) b))))), (1, (2 * ((mem (t + 5) a) - (mem (t + 5) b))))]) (st := []) d_St_meet_192 l_St_55 k_St_enter (kSt0 h) rfl rfl rfl rfl (s_St_enter m8 t (-((mem (t + 6) a) - (mem (t + 6) b))) 1 ((((mem (t + 6) a) - (mem (t + 6) b)) * ((mem (t + 6) a) - (mem (t + 6) b))) - ((4 * ((mem (t + 5) a) - (mem (t + 5) b))) * ((mem (t + 7) a) - (mem (t + 7) b)))) (2 * ((mem (t + 5) a) - (mem (t + 5) b))) h (by omega) (enR s (-(mem (t + 6) a - mem (t + 6) b)) (-1) ((mem (t + 6) a - mem (t + 6) b) * (mem (t + 6) a - mem (t + 6) b) - 4 * (mem (t + 5) a - mem (t + 5) b) * (mem (t + 7) a - mem (t + 7) b)) (2 * (mem (t + 5) a - mem (t + 5) b))) hp1 (fun z => okP_tn (by omega) (by omega) (by omega) (by omega) z)) (fun r9 m9 hq9 => ?_)
            obtain ⟨rfl, hp2, hf2⟩ := hq9
            show zS zT m_St_meet (0, 0) 195 [some (2, t), some (0, a), some (0, b), some (1, ((mem (t + 5) a) - (mem (t + 5) b))), none, some (1, ((mem (t + 6) a) - (mem (t + 6) b))), none, some (1, ((mem (t + 7) a) - (mem (t + 7) b))), none, some (1, ((((mem (t + 6) a) - (mem (t + 6) b)) * ((mem (t + 6) a) - (mem (t + 6) b))) - ((4 * ((mem (t + 5) a) - (mem (t + 5) b))) * ((mem (t + 7) a) - (mem (t + 7) b))))), none, some (1, (rtD ((((mem (t + 6) a) - (mem (t + 6) b)) * ((mem (t + 6) a) - (mem (t + 6) b))) - ((4 * ((mem (t + 5) a) - (mem (t + 5) b))) * ((mem (t + 7) a) - (mem (t + 7) b)))))), none] [] m9 _
            exact zS_vret d_St_meet_195 rfl ⟨Nat.zero_le _, Nat.zero_le _⟩ (by unfold meP meQ; rw [cif_f (by omega), if_neg (by omega), if_neg (by omega)]; first | (rw [if_pos (by omega)]; exact ⟨rfl, hp2, frE_t hf1 hf2⟩) | (rw [if_neg (by omega)]; exact ⟨rfl, hp2, frE_t hf1 hf2⟩))
          · refine zV_aload_n d_St_meet_126 rfl ?_
            refine zV_lload d_St_meet_127 rfl ?_
            refine zV_lneg d_St_meet_129 ?_
            refine zV_lload d_St_meet_130 rfl ?_
            refine zV_lsub d_St_meet_132 ?_
            refine zV_lconst0 d_St_meet_133 ?_
            refine zV_lconst0 d_St_meet_134 ?_
            refine zV_ldc2 (a := 2) d_St_meet_135 n_St_114 rfl ?_
            refine zV_lload_n d_St_meet_138 rfl ?_
            refine zV_lmul d_St_meet_139 ?_
            refine zS_invv (mt' := m_St_enter) (avs := [(1, ((-((mem (t + 6) a) - (mem (t + 6) b))) - (rtD ((((mem (t + 6) a) - (mem (t + 6) b)) * ((mem (t + 6) a) - (mem (t + 6) b))) - ((4 * ((mem (t + 5) a) - (mem (t + 5) b))) * ((mem (t + 7) a) - (mem (t + 7) b))))))), (1, 0), (1, 0), (1, (2 * ((mem (t + 5) a) - (mem (t + 5) b))))]) (st := []) d_St_meet_140 l_St_55 k_St_enter (kSt0 h) rfl rfl rfl rfl (s_St_enter mem t ((-((mem (t + 6) a) - (mem (t + 6) b))) - (rtD ((((mem (t + 6) a) - (mem (t + 6) b)) * ((mem (t + 6) a) - (mem (t + 6) b))) - ((4 * ((mem (t + 5) a) - (mem (t + 5) b))) * ((mem (t + 7) a) - (mem (t + 7) b)))))) 0 0 (2 * ((mem (t + 5) a) - (mem (t + 5) b))) h (by omega) s hs (fun z => okP_tn (by omega) (by omega) (by omega) (by omega) z)) (fun r9 m8 hq9 => ?_)
            obtain ⟨rfl, hp1, hf1⟩ := hq9
            show zS zT m_St_meet (0, 0) 143 [some (2, t), some (0, a), some (0, b), some (1, ((mem (t + 5) a) - (mem (t + 5) b))), none, some (1, ((mem (t + 6) a) - (mem (t + 6) b))), none, some (1, ((mem (t + 7) a) - (mem (t + 7) b))), none, some (1, ((((mem (t + 6) a) - (mem (t + 6) b)) * ((mem (t + 6) a) - (mem (t + 6) b))) - ((4 * ((mem (t + 5) a) - (mem (t + 5) b))) * ((mem (t + 7) a) - (mem (t + 7) b))))), none, some (1, (rtD ((((mem (t + 6) a) - (mem (t + 6) b)) * ((mem (t + 6) a) - (mem (t + 6) b))) - ((4 * ((mem (t + 5) a) - (mem (t + 5) b))) * ((mem (t + 7) a) - (mem (t + 7) b)))))), none] [] m8 _
            refine zV_aload_n d_St_meet_143 rfl ?_
            refine zV_lload d_St_meet_144 rfl ?_
            refine zV_lneg d_St_meet_146 ?_
            refine zV_lload d_St_meet_147 rfl ?_
            refine zV_ladd d_St_meet_149 ?_
            refine zV_lconst0 d_St_meet_150 ?_
            refine zV_lconst0 d_St_meet_151 ?_
            refine zV_ldc2 (a := 2) d_St_meet_152 n_St_114 rfl ?_
            refine zV_lload_n d_St_meet_155 rfl ?_
            refine zV_lmul d_St_meet_156 ?_
            refine zS_invv (mt' := m_St_enter) (avs := [(1, ((-((mem (t + 6) a) - (mem (t + 6) b))) + (rtD ((((mem (t + 6) a) - (mem (t + 6) b)) * ((mem (t + 6) a) - (mem (t + 6) b))) - ((4 * ((mem (t + 5) a) - (mem (t + 5) b))) * ((mem (t + 7) a) - (mem (t + 7) b))))))), (1, 0), (1, 0), (1, (2 * ((mem (t + 5) a) - (mem (t + 5) b))))]) (st := []) d_St_meet_157 l_St_55 k_St_enter (kSt0 h) rfl rfl rfl rfl (s_St_enter m8 t ((-((mem (t + 6) a) - (mem (t + 6) b))) + (rtD ((((mem (t + 6) a) - (mem (t + 6) b)) * ((mem (t + 6) a) - (mem (t + 6) b))) - ((4 * ((mem (t + 5) a) - (mem (t + 5) b))) * ((mem (t + 7) a) - (mem (t + 7) b)))))) 0 0 (2 * ((mem (t + 5) a) - (mem (t + 5) b))) h (by omega) (enR s (-(mem (t + 6) a - mem (t + 6) b) - rtD ((mem (t + 6) a - mem (t + 6) b) * (mem (t + 6) a - mem (t + 6) b) - 4 * (mem (t + 5) a - mem (t + 5) b) * (mem (t + 7) a - mem (t + 7) b))) 0 0 (2 * (mem (t + 5) a - mem (t + 5) b))) hp1 (fun z => okP_tn (by omega) (by omega) (by omega) (by omega) z)) (fun r9 m9 hq9 => ?_)
            obtain ⟨rfl, hp2, hf2⟩ := hq9
            show zS zT m_St_meet (0, 0) 160 [some (2, t), some (0, a), some (0, b), some (1, ((mem (t + 5) a) - (mem (t + 5) b))), none, some (1, ((mem (t + 6) a) - (mem (t + 6) b))), none, some (1, ((mem (t + 7) a) - (mem (t + 7) b))), none, some (1, ((((mem (t + 6) a) - (mem (t + 6) b)) * ((mem (t + 6) a) - (mem (t + 6) b))) - ((4 * ((mem (t + 5) a) - (mem (t + 5) b))) * ((mem (t + 7) a) - (mem (t + 7) b))))), none, some (1, (rtD ((((mem (t + 6) a) - (mem (t + 6) b)) * ((mem (t + 6) a) - (mem (t + 6) b))) - ((4 * ((mem (t + 5) a) - (mem (t + 5) b))) * ((mem (t + 7) a) - (mem (t + 7) b)))))), none] [] m9 _
            refine zV_goto d_St_meet_160 ?_
            exact zS_vret d_St_meet_195 rfl ⟨Nat.zero_le _, Nat.zero_le _⟩ (by unfold meP meQ; rw [cif_f (by omega), if_neg (by omega), if_neg (by omega)]; first | (rw [if_pos (by omega)]; exact ⟨rfl, hp2, frE_t hf1 hf2⟩) | (rw [if_neg (by omega)]; exact ⟨rfl, hp2, frE_t hf1 hf2⟩))
        · exact zS_vret d_St_meet_107 rfl ⟨Nat.zero_le _, Nat.zero_le _⟩ (by unfold meP meQ; rw [cif_f (by omega), if_neg (by omega), if_pos (by omega)]; exact ⟨rfl, hs, frE_r _ _⟩)
      · refine zV_aload_n d_St_meet_72 rfl ?_
        refine zV_lload d_St_meet_73 rfl ?_
        refine zV_lneg d_St_meet_75 ?_
        refine zV_lconst0 d_St_meet_76 ?_
        refine zV_lconst0 d_St_meet_77 ?_
        refine zV_lload d_St_meet_78 rfl ?_
        refine zS_invv (mt' := m_St_enter) (avs := [(1, (-((mem (t + 7) a) - (mem (t + 7) b)))), (1, 0), (1, 0), (1, ((mem (t + 6) a) - (mem (t + 6) b)))]) (st := []) d_St_meet_80 l_St_55 k_St_enter (kSt0 h) rfl rfl rfl rfl (s_St_enter mem t (-((mem (t + 7) a) - (mem (t + 7) b))) 0 0 ((mem (t + 6) a) - (mem (t + 6) b)) h (by omega) s hs (fun z => okP_tn (by omega) (by omega) (by omega) (by omega) z)) (fun r9 m8 hq9 => ?_)
        obtain ⟨rfl, hp1, hf1⟩ := hq9
        show zS zT m_St_meet (0, 0) 83 [some (2, t), some (0, a), some (0, b), some (1, ((mem (t + 5) a) - (mem (t + 5) b))), none, some (1, ((mem (t + 6) a) - (mem (t + 6) b))), none, some (1, ((mem (t + 7) a) - (mem (t + 7) b))), none, none, none, none, none] [] m8 _
        exact zS_vret d_St_meet_83 rfl ⟨Nat.zero_le _, Nat.zero_le _⟩ (by unfold meP meQ; rw [cif_f (by omega)]; rw [if_pos (by omega)]; exact ⟨rfl, hp1, hf1⟩)
    · exact zS_vret d_St_meet_18 rfl ⟨Nat.zero_le _, Nat.zero_le _⟩ (by unfold meP; rw [cif_t (by omega)]; exact ⟨rfl, hs, frE_r _ _⟩)
