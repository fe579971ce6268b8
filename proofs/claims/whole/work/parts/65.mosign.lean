/-! the reference: exact signs -/
theorem sg3_c (n a d : Int) : sg3 n a d = sCmb (cmpI n 0) (if d = 0 then 0 else cmpI a 0) (cmpI (n * n) (a * a * d)) := rfl
theorem sCmb_1 {l r s : Int} (h : l = 0 ∨ r = 0 ∨ l = r) : sCmb l r s = if l = 0 then r else l := by
  unfold sCmb
  (repeat' split) <;> omega
theorem sCmb_2 {l r s : Int} (hl : l = -1 ∨ l = 0 ∨ l = 1) (hr : r = -1 ∨ r = 0 ∨ r = 1) (hs : s = -1 ∨ s = 0 ∨ s = 1) (h0 : l ≠ 0) (h1 : r ≠ 0) (h2 : l ≠ r) : sCmb l r s = if 0 < s then l else if s < 0 then r else 0 := by
  unfold sCmb
  rw [if_neg (by omega), if_neg h1]
  rcases hs with rfl | rfl | rfl
  · rw [if_neg (by decide), if_pos (by decide)]; omega
  · rw [if_neg (by decide), if_neg (by decide)]; omega
  · rw [if_pos (by decide)]; omega
theorem sCmb_3 {l r s : Int} (hl : l = -1 ∨ l = 0 ∨ l = 1) (hr : r = -1 ∨ r = 0 ∨ r = 1) (hs : s = -1 ∨ s = 0 ∨ s = 1) : sCmb l r s = -1 ∨ sCmb l r s = 0 ∨ sCmb l r s = 1 := by
  unfold sCmb
  (repeat' split)
  · exact hr
  · exact hl
  · exact sgm hl hs
theorem s_Mo_signRoot (mem : zMem) (n a d : Int) (h1 : I64 n) (h2 : I64 a) (h3 : I64 d) (h4 : d ≠ 0 → I64 (n * n - a * a * d)) : zF m_Mo_signRoot [(1, n), (1, a), (1, d)] mem (fun r m => r = some (0, sg3 n a d) ∧ m = mem) := by
  have f1 := cmpI_3 n 0
  have f2 := cmpI_3 a 0
  have f3 := cmpI_3 (n * n - a * a * d) 0
  refine zF_of (by decide) (Nat.le_of_ble_eq_true rfl) ?_
  show zS zT m_Mo_signRoot (0, 0) 0 [some (1, n), none, some (1, a), none, some (1, d), none, none, none, none] [] mem _
  refine zV_lload_n d_Mo_signRoot_0 rfl ?_
  refine zS_invsE (mt' := m_Mo_signOf) (avs := [(1, n)]) (st := []) d_Mo_signRoot_1 l_Mo_132 k_Mo_signOf rfl rfl rfl rfl (s_Mo_signOf mem n (by omega)) ?_
  show zS zT m_Mo_signRoot (0, 0) 4 [some (1, n), none, some (1, a), none, some (1, d), none, none, none, none] [(0, (cmpI n 0))] mem _
  refine zV_istore (L' := [some (1, n), none, some (1, a), none, some (1, d), none, some (0, (cmpI n 0)), none, none]) d_Mo_signRoot_4 (by decide) rfl ?_
  refine zV_lload d_Mo_signRoot_6 rfl ?_
  refine zV_lconst0 d_Mo_signRoot_8 ?_
  refine zV_lcmp_ne d_Mo_signRoot_9 d_Mo_signRoot_10 (by omega) (by omega) (fun c9 => ?_) (fun c9 => ?_)
  · refine zV_lload_n d_Mo_signRoot_17 rfl ?_
    refine zS_invsE (mt' := m_Mo_signOf) (avs := [(1, a)]) (st := []) d_Mo_signRoot_18 l_Mo_132 k_Mo_signOf rfl rfl rfl rfl (s_Mo_signOf mem a (by omega)) ?_
    show zS zT m_Mo_signRoot (0, 0) 21 [some (1, n), none, some (1, a), none, some (1, d), none, some (0, (cmpI n 0)), none, none] [(0, (cmpI a 0))] mem _
    refine zV_istore (L' := [some (1, n), none, some (1, a), none, some (1, d), none, some (0, (cmpI n 0)), some (0, (cmpI a 0)), none]) d_Mo_signRoot_21 (by decide) rfl ?_
    refine zV_iload d_Mo_signRoot_23 rfl ?_
    refine zV_if_eq d_Mo_signRoot_25 (cmpI_i _ _) (fun c25 => ?_) (fun c25 => ?_)
    · refine zV_iload d_Mo_signRoot_40 rfl ?_
      refine zV_if_ne d_Mo_signRoot_42 (cmpI_i _ _) (fun c42 => ?_) (fun c42 => ?_)
      · refine zV_iload d_Mo_signRoot_50 rfl ?_
        exact zS_iret d_Mo_signRoot_52 rfl ⟨Nat.zero_le _, Nat.zero_le _⟩ (by first | (exfalso; omega) | (refine ⟨?_, rfl⟩; have e9 : (if d = 0 then 0 else cmpI a 0) = (cmpI a 0) := (by first | rw [if_pos (by omega)] | rw [if_neg (by omega)]); rw [sg3_c, e9, sCmb_1 (by omega)]; (first | rw [if_pos (by omega)] | (rw [if_neg (by omega)]; first | rw [if_pos (by omega)] | rw [if_neg (by omega)] | skip) | rw [if_neg (by omega)])))
      · refine zV_iload d_Mo_signRoot_45 rfl ?_
        refine zV_goto d_Mo_signRoot_47 ?_
        exact zS_iret d_Mo_signRoot_52 rfl ⟨Nat.zero_le _, Nat.zero_le _⟩ (by first | (exfalso; omega) | (refine ⟨?_, rfl⟩; have e9 : (if d = 0 then 0 else cmpI a 0) = (cmpI a 0) := (by first | rw [if_pos (by omega)] | rw [if_neg (by omega)]); rw [sg3_c, e9, sCmb_1 (by omega)]; (first | rw [if_pos (by omega)] | (rw [if_neg (by omega)]; first | rw [if_pos (by omega)] | rw [if_neg (by omega)] | skip) | rw [if_neg (by omega)])))
    · refine zV_iload d_Mo_signRoot_28 rfl ?_
      refine zV_if_eq d_Mo_signRoot_30 (cmpI_i _ _) (fun c30 => ?_) (fun c30 => ?_)
      · refine zV_iload d_Mo_signRoot_40 rfl ?_
        refine zV_if_ne d_Mo_signRoot_42 (cmpI_i _ _) (fun c42 => ?_) (fun c42 => ?_)
        · refine zV_iload d_Mo_signRoot_50 rfl ?_
          exact zS_iret d_Mo_signRoot_52 rfl ⟨Nat.zero_le _, Nat.zero_le _⟩ (by first | (exfalso; omega) | (refine ⟨?_, rfl⟩; have e9 : (if d = 0 then 0 else cmpI a 0) = (cmpI a 0) := (by first | rw [if_pos (by omega)] | rw [if_neg (by omega)]); rw [sg3_c, e9, sCmb_1 (by omega)]; (first | rw [if_pos (by omega)] | (rw [if_neg (by omega)]; first | rw [if_pos (by omega)] | rw [if_neg (by omega)] | skip) | rw [if_neg (by omega)])))
        · refine zV_iload d_Mo_signRoot_45 rfl ?_
          refine zV_goto d_Mo_signRoot_47 ?_
          exact zS_iret d_Mo_signRoot_52 rfl ⟨Nat.zero_le _, Nat.zero_le _⟩ (by first | (exfalso; omega) | (refine ⟨?_, rfl⟩; have e9 : (if d = 0 then 0 else cmpI a 0) = (cmpI a 0) := (by first | rw [if_pos (by omega)] | rw [if_neg (by omega)]); rw [sg3_c, e9, sCmb_1 (by omega)]; (first | rw [if_pos (by omega)] | (rw [if_neg (by omega)]; first | rw [if_pos (by omega)] | rw [if_neg (by omega)] | skip) | rw [if_neg (by omega)])))
      · refine zV_iload d_Mo_signRoot_33 rfl ?_
        refine zV_iload d_Mo_signRoot_35 rfl ?_
        refine zV_icmp_ne d_Mo_signRoot_37 (cmpI_i _ _) (cmpI_i _ _) (fun c37 => ?_) (fun c37 => ?_)
        · refine zV_lload_n d_Mo_signRoot_53 rfl ?_
          refine zV_lload_n d_Mo_signRoot_54 rfl ?_
          refine zV_lmul d_Mo_signRoot_55 ?_
          refine zV_lload_n d_Mo_signRoot_56 rfl ?_
          refine zV_lload_n d_Mo_signRoot_57 rfl ?_
          refine zV_lmul d_Mo_signRoot_58 ?_
          refine zV_lload d_Mo_signRoot_59 rfl ?_
          refine zV_lmul d_Mo_signRoot_61 ?_
          refine zV_lsub d_Mo_signRoot_62 ?_
          refine zS_invsE (mt' := m_Mo_signOf) (avs := [(1, ((n * n) - ((a * a) * d)))]) (st := []) d_Mo_signRoot_63 l_Mo_132 k_Mo_signOf rfl rfl rfl rfl (s_Mo_signOf mem ((n * n) - ((a * a) * d)) (h4 (by omega))) ?_
          show zS zT m_Mo_signRoot (0, 0) 66 [some (1, n), none, some (1, a), none, some (1, d), none, some (0, (cmpI n 0)), some (0, (cmpI a 0)), none] [(0, (cmpI ((n * n) - ((a * a) * d)) 0))] mem _
          refine zV_istore (L' := [some (1, n), none, some (1, a), none, some (1, d), none, some (0, (cmpI n 0)), some (0, (cmpI a 0)), some (0, (cmpI ((n * n) - ((a * a) * d)) 0))]) d_Mo_signRoot_66 (by decide) rfl ?_
          refine zV_iload d_Mo_signRoot_68 rfl ?_
          refine zV_if_le d_Mo_signRoot_70 (cmpI_i _ _) (fun c70 => ?_) (fun c70 => ?_)
          · refine zV_iload d_Mo_signRoot_78 rfl ?_
            refine zV_if_ge d_Mo_signRoot_80 (cmpI_i _ _) (fun c80 => ?_) (fun c80 => ?_)
            · refine zV_iconst d_Mo_signRoot_88 ?_
              exact zS_iret d_Mo_signRoot_89 rfl ⟨Nat.zero_le _, Nat.zero_le _⟩ (by first | (exfalso; omega) | (refine ⟨?_, rfl⟩; have e9 : (if d = 0 then 0 else cmpI a 0) = (cmpI a 0) := (by first | rw [if_pos (by omega)] | rw [if_neg (by omega)]); rw [sg3_c, e9, cmpI_d (n * n), sCmb_2 (by omega) (by omega) (by omega) (by omega) (by omega) (by omega)]; (first | rw [if_pos (by omega)] | (rw [if_neg (by omega)]; first | rw [if_pos (by omega)] | rw [if_neg (by omega)] | skip) | rw [if_neg (by omega)])))
            · refine zV_iload d_Mo_signRoot_83 rfl ?_
              refine zV_goto d_Mo_signRoot_85 ?_
              exact zS_iret d_Mo_signRoot_89 rfl ⟨Nat.zero_le _, Nat.zero_le _⟩ (by first | (exfalso; omega) | (refine ⟨?_, rfl⟩; have e9 : (if d = 0 then 0 else cmpI a 0) = (cmpI a 0) := (by first | rw [if_pos (by omega)] | rw [if_neg (by omega)]); rw [sg3_c, e9, cmpI_d (n * n), sCmb_2 (by omega) (by omega) (by omega) (by omega) (by omega) (by omega)]; (first | rw [if_pos (by omega)] | (rw [if_neg (by omega)]; first | rw [if_pos (by omega)] | rw [if_neg (by omega)] | skip) | rw [if_neg (by omega)])))
          · refine zV_iload d_Mo_signRoot_73 rfl ?_
            refine zV_goto d_Mo_signRoot_75 ?_
            exact zS_iret d_Mo_signRoot_89 rfl ⟨Nat.zero_le _, Nat.zero_le _⟩ (by first | (exfalso; omega) | (refine ⟨?_, rfl⟩; have e9 : (if d = 0 then 0 else cmpI a 0) = (cmpI a 0) := (by first | rw [if_pos (by omega)] | rw [if_neg (by omega)]); rw [sg3_c, e9, cmpI_d (n * n), sCmb_2 (by omega) (by omega) (by omega) (by omega) (by omega) (by omega)]; (first | rw [if_pos (by omega)] | (rw [if_neg (by omega)]; first | rw [if_pos (by omega)] | rw [if_neg (by omega)] | skip) | rw [if_neg (by omega)])))
        · refine zV_iload d_Mo_signRoot_40 rfl ?_
          refine zV_if_ne d_Mo_signRoot_42 (cmpI_i _ _) (fun c42 => ?_) (fun c42 => ?_)
          · refine zV_iload d_Mo_signRoot_50 rfl ?_
            exact zS_iret d_Mo_signRoot_52 rfl ⟨Nat.zero_le _, Nat.zero_le _⟩ (by first | (exfalso; omega) | (refine ⟨?_, rfl⟩; have e9 : (if d = 0 then 0 else cmpI a 0) = (cmpI a 0) := (by first | rw [if_pos (by omega)] | rw [if_neg (by omega)]); rw [sg3_c, e9, sCmb_1 (by omega)]; (first | rw [if_pos (by omega)] | (rw [if_neg (by omega)]; first | rw [if_pos (by omega)] | rw [if_neg (by omega)] | skip) | rw [if_neg (by omega)])))
          · refine zV_iload d_Mo_signRoot_45 rfl ?_
            refine zV_goto d_Mo_signRoot_47 ?_
            exact zS_iret d_Mo_signRoot_52 rfl ⟨Nat.zero_le _, Nat.zero_le _⟩ (by first | (exfalso; omega) | (refine ⟨?_, rfl⟩; have e9 : (if d = 0 then 0 else cmpI a 0) = (cmpI a 0) := (by first | rw [if_pos (by omega)] | rw [if_neg (by omega)]); rw [sg3_c, e9, sCmb_1 (by omega)]; (first | rw [if_pos (by omega)] | (rw [if_neg (by omega)]; first | rw [if_pos (by omega)] | rw [if_neg (by omega)] | skip) | rw [if_neg (by omega)])))
  · refine zV_iconst d_Mo_signRoot_13 ?_
    refine zV_goto d_Mo_signRoot_14 ?_
    refine zV_istore (L' := [some (1, n), none, some (1, a), none, some (1, d), none, some (0, (cmpI n 0)), some (0, 0), none]) d_Mo_signRoot_21 (by decide) rfl ?_
    refine zV_iload d_Mo_signRoot_23 rfl ?_
    refine zV_if_eq d_Mo_signRoot_25 (cmpI_i _ _) (fun c25 => ?_) (fun c25 => ?_)
    · refine zV_iload d_Mo_signRoot_40 rfl ?_
      refine zV_if_ne d_Mo_signRoot_42 (cmpI_i _ _) (fun c42 => ?_) (fun c42 => ?_)
      · refine zV_iload d_Mo_signRoot_50 rfl ?_
        exact zS_iret d_Mo_signRoot_52 rfl ⟨Nat.zero_le _, Nat.zero_le _⟩ (by first | (exfalso; omega) | (refine ⟨?_, rfl⟩; have e9 : (if d = 0 then 0 else cmpI a 0) = 0 := (by first | rw [if_pos (by omega)] | rw [if_neg (by omega)]); rw [sg3_c, e9, sCmb_1 (by omega)]; (first | rw [if_pos (by omega)] | (rw [if_neg (by omega)]; first | rw [if_pos (by omega)] | rw [if_neg (by omega)] | skip) | rw [if_neg (by omega)])))
      · refine zV_iload d_Mo_signRoot_45 rfl ?_
        refine zV_goto d_Mo_signRoot_47 ?_
        exact zS_iret d_Mo_signRoot_52 rfl ⟨Nat.zero_le _, Nat.zero_le _⟩ (by first | (exfalso; omega) | (refine ⟨?_, rfl⟩; have e9 : (if d = 0 then 0 else cmpI a 0) = 0 := (by first | rw [if_pos (by omega)] | rw [if_neg (by omega)]); rw [sg3_c, e9, sCmb_1 (by omega)]; (first | rw [if_pos (by omega)] | (rw [if_neg (by omega)]; first | rw [if_pos (by omega)] | rw [if_neg (by omega)] | skip) | rw [if_neg (by omega)])))
    · refine zV_iload d_Mo_signRoot_28 rfl ?_
      refine zV_if_eq d_Mo_signRoot_30 (by omega) (fun c30 => ?_) (fun c30 => absurd c30 (by omega))
      refine zV_iload d_Mo_signRoot_40 rfl ?_
      refine zV_if_ne d_Mo_signRoot_42 (cmpI_i _ _) (fun c42 => ?_) (fun c42 => ?_)
      · refine zV_iload d_Mo_signRoot_50 rfl ?_
        exact zS_iret d_Mo_signRoot_52 rfl ⟨Nat.zero_le _, Nat.zero_le _⟩ (by first | (exfalso; omega) | (refine ⟨?_, rfl⟩; have e9 : (if d = 0 then 0 else cmpI a 0) = 0 := (by first | rw [if_pos (by omega)] | rw [if_neg (by omega)]); rw [sg3_c, e9, sCmb_1 (by omega)]; (first | rw [if_pos (by omega)] | (rw [if_neg (by omega)]; first | rw [if_pos (by omega)] | rw [if_neg (by omega)] | skip) | rw [if_neg (by omega)])))
      · refine zV_iload d_Mo_signRoot_45 rfl ?_
        refine zV_goto d_Mo_signRoot_47 ?_
        exact zS_iret d_Mo_signRoot_52 rfl ⟨Nat.zero_le _, Nat.zero_le _⟩ (by first | (exfalso; omega) | (refine ⟨?_, rfl⟩; have e9 : (if d = 0 then 0 else cmpI a 0) = 0 := (by first | rw [if_pos (by omega)] | rw [if_neg (by omega)]); rw [sg3_c, e9, sCmb_1 (by omega)]; (first | rw [if_pos (by omega)] | (rw [if_neg (by omega)]; first | rw [if_pos (by omega)] | rw [if_neg (by omega)] | skip) | rw [if_neg (by omega)])))
theorem s_Mo_signRoots_135 (mem : zMem) (n a d b e : Int) (hb : B5 n a d b e) (t : Int) (ht : t = -1 ∨ t = 0 ∨ t = 1) : zS zT m_Mo_signRoots (0, 0) 135 [some (1, n), none, some (1, a), none, some (1, d), none, some (1, b), none, some (1, e), none, some (0, (cmpI n 0)), none, none, none, some (0, t), none] [] mem (zQs (fun r m => r = some (0, sCmb (cmpI n 0) t (sg3 (n * n - a * a * d - b * b * e) (-2 * a * b) (d * e))) ∧ m = mem)) := by
  obtain ⟨⟨b1, b2⟩, ⟨b3, b4⟩, ⟨b5, b6⟩, ⟨b7, b8⟩, b9, b10⟩ := id hb
  have q1 := mb (⟨b1, b2⟩ : -2000 ≤ n ∧ n ≤ 2000) (⟨b1, b2⟩ : -2000 ≤ n ∧ n ≤ 2000)
  have q2 := mb (⟨b3, b4⟩ : -20 ≤ a ∧ a ≤ 20) (⟨b3, b4⟩ : -20 ≤ a ∧ a ≤ 20)
  have q3 := mb (⟨b7, b8⟩ : -20 ≤ b ∧ b ≤ 20) (⟨b7, b8⟩ : -20 ≤ b ∧ b ≤ 20)
  have q4 := mb q2 (⟨by omega, b6⟩ : -500 ≤ d ∧ d ≤ 500)
  have q5 := mb q3 (⟨by omega, b10⟩ : -500 ≤ e ∧ e ≤ 500)
  have q6 := mb (⟨by omega, b6⟩ : -500 ≤ d ∧ d ≤ 500) (⟨by omega, b10⟩ : -500 ≤ e ∧ e ≤ 500)
  have q7 := mb (⟨by omega, by omega⟩ : -40 ≤ -2 * a ∧ -2 * a ≤ 40) (⟨b7, b8⟩ : -20 ≤ b ∧ b ≤ 20)
  have q8 := mb (⟨by omega, by omega⟩ : -4400000 ≤ n * n - a * a * d - b * b * e ∧ n * n - a * a * d - b * b * e ≤ 4400000) (⟨by omega, by omega⟩ : -4400000 ≤ n * n - a * a * d - b * b * e ∧ n * n - a * a * d - b * b * e ≤ 4400000)
  have q9 := mb (mb q7 q7) q6
  have f1 := cmpI_3 n 0
  have f3 := sg3_3 (n * n - a * a * d - b * b * e) (-2 * a * b) (d * e)
  refine zV_iload d_Mo_signRoots_135 rfl ?_
  refine zV_if_eq d_Mo_signRoots_137 (cmpI_i _ _) (fun c137 => ?_) (fun c137 => ?_)
  · refine zV_iload d_Mo_signRoots_152 rfl ?_
    refine zV_if_ne d_Mo_signRoots_154 (cmpI_i _ _) (fun c154 => ?_) (fun c154 => ?_)
    · refine zV_iload d_Mo_signRoots_162 rfl ?_
      exact zS_iret d_Mo_signRoots_164 rfl ⟨Nat.zero_le _, Nat.zero_le _⟩ (by first | (exfalso; omega) | (refine ⟨?_, rfl⟩; rw [sCmb_1 (by omega)]; (first | rw [if_pos (by omega)] | (rw [if_neg (by omega)]; first | rw [if_pos (by omega)] | rw [if_neg (by omega)] | skip) | rw [if_neg (by omega)])))
    · refine zV_iload d_Mo_signRoots_157 rfl ?_
      refine zV_goto d_Mo_signRoots_159 ?_
      exact zS_iret d_Mo_signRoots_164 rfl ⟨Nat.zero_le _, Nat.zero_le _⟩ (by first | (exfalso; omega) | (refine ⟨?_, rfl⟩; rw [sCmb_1 (by omega)]; (first | rw [if_pos (by omega)] | (rw [if_neg (by omega)]; first | rw [if_pos (by omega)] | rw [if_neg (by omega)] | skip) | rw [if_neg (by omega)])))
  · refine zV_iload d_Mo_signRoots_140 rfl ?_
    refine zV_if_eq d_Mo_signRoots_142 (by omega) (fun c142 => ?_) (fun c142 => ?_)
    · refine zV_iload d_Mo_signRoots_152 rfl ?_
      refine zV_if_ne d_Mo_signRoots_154 (cmpI_i _ _) (fun c154 => ?_) (fun c154 => ?_)
      · refine zV_iload d_Mo_signRoots_162 rfl ?_
        exact zS_iret d_Mo_signRoots_164 rfl ⟨Nat.zero_le _, Nat.zero_le _⟩ (by first | (exfalso; omega) | (refine ⟨?_, rfl⟩; rw [sCmb_1 (by omega)]; (first | rw [if_pos (by omega)] | (rw [if_neg (by omega)]; first | rw [if_pos (by omega)] | rw [if_neg (by omega)] | skip) | rw [if_neg (by omega)])))
      · refine zV_iload d_Mo_signRoots_157 rfl ?_
        refine zV_goto d_Mo_signRoots_159 ?_
        exact zS_iret d_Mo_signRoots_164 rfl ⟨Nat.zero_le _, Nat.zero_le _⟩ (by first | (exfalso; omega) | (refine ⟨?_, rfl⟩; rw [sCmb_1 (by omega)]; (first | rw [if_pos (by omega)] | (rw [if_neg (by omega)]; first | rw [if_pos (by omega)] | rw [if_neg (by omega)] | skip) | rw [if_neg (by omega)])))
    · refine zV_iload d_Mo_signRoots_145 rfl ?_
      refine zV_iload d_Mo_signRoots_147 rfl ?_
      refine zV_icmp_ne d_Mo_signRoots_149 (cmpI_i _ _) (by omega) (fun c149 => ?_) (fun c149 => ?_)
      · refine zV_lload_n d_Mo_signRoots_165 rfl ?_
        refine zV_lload_n d_Mo_signRoots_166 rfl ?_
        refine zV_lmul d_Mo_signRoots_167 ?_
        refine zV_lload_n d_Mo_signRoots_168 rfl ?_
        refine zV_lload_n d_Mo_signRoots_169 rfl ?_
        refine zV_lmul d_Mo_signRoots_170 ?_
        refine zV_lload d_Mo_signRoots_171 rfl ?_
        refine zV_lmul d_Mo_signRoots_173 ?_
        refine zV_lsub d_Mo_signRoots_174 ?_
        refine zV_lload d_Mo_signRoots_175 rfl ?_
        refine zV_lload d_Mo_signRoots_177 rfl ?_
        refine zV_lmul d_Mo_signRoots_179 ?_
        refine zV_lload d_Mo_signRoots_180 rfl ?_
        refine zV_lmul d_Mo_signRoots_182 ?_
        refine zV_lsub d_Mo_signRoots_183 ?_
        refine zV_ldc2 (a := (-2)) d_Mo_signRoots_184 n_Mo_140 rfl ?_
        refine zV_lload_n d_Mo_signRoots_187 rfl ?_
        refine zV_lmul d_Mo_signRoots_188 ?_
        refine zV_lload d_Mo_signRoots_189 rfl ?_
        refine zV_lmul d_Mo_signRoots_191 ?_
        refine zV_lload d_Mo_signRoots_192 rfl ?_
        refine zV_lload d_Mo_signRoots_194 rfl ?_
        refine zV_lmul d_Mo_signRoots_196 ?_
        refine zS_invsE (mt' := m_Mo_signRoot) (avs := [(1, (((n * n) - ((a * a) * d)) - ((b * b) * e))), (1, (((-2) * a) * b)), (1, (d * e))]) (st := []) d_Mo_signRoots_197 l_Mo_136 k_Mo_signRoot rfl rfl rfl rfl (s_Mo_signRoot mem (((n * n) - ((a * a) * d)) - ((b * b) * e)) (((-2) * a) * b) (d * e) (by omega) (by omega) (by omega) (fun _ => by omega)) ?_
        show zS zT m_Mo_signRoots (0, 0) 200 [some (1, n), none, some (1, a), none, some (1, d), none, some (1, b), none, some (1, e), none, some (0, (cmpI n 0)), none, none, none, some (0, t), none] [(0, (sg3 (((n * n) - ((a * a) * d)) - ((b * b) * e)) (((-2) * a) * b) (d * e)))] mem _
        refine zV_istore (L' := [some (1, n), none, some (1, a), none, some (1, d), none, some (1, b), none, some (1, e), none, some (0, (cmpI n 0)), none, none, none, some (0, t), some (0, (sg3 (((n * n) - ((a * a) * d)) - ((b * b) * e)) (((-2) * a) * b) (d * e)))]) d_Mo_signRoots_200 (by decide) rfl ?_
        refine zV_iload d_Mo_signRoots_202 rfl ?_
        refine zV_if_le d_Mo_signRoots_204 (sg3_i _ _ _) (fun c204 => ?_) (fun c204 => ?_)
        · refine zV_iload d_Mo_signRoots_212 rfl ?_
          refine zV_if_ge d_Mo_signRoots_214 (sg3_i _ _ _) (fun c214 => ?_) (fun c214 => ?_)
          · refine zV_iconst d_Mo_signRoots_222 ?_
            exact zS_iret d_Mo_signRoots_223 rfl ⟨Nat.zero_le _, Nat.zero_le _⟩ (by first | (exfalso; omega) | (refine ⟨?_, rfl⟩; rw [sCmb_2 (by omega) ht (by omega) (by omega) (by omega) (by omega)]; (first | rw [if_pos (by omega)] | (rw [if_neg (by omega)]; first | rw [if_pos (by omega)] | rw [if_neg (by omega)] | skip) | rw [if_neg (by omega)])))
          · refine zV_iload d_Mo_signRoots_217 rfl ?_
            refine zV_goto d_Mo_signRoots_219 ?_
            exact zS_iret d_Mo_signRoots_223 rfl ⟨Nat.zero_le _, Nat.zero_le _⟩ (by first | (exfalso; omega) | (refine ⟨?_, rfl⟩; rw [sCmb_2 (by omega) ht (by omega) (by omega) (by omega) (by omega)]; (first | rw [if_pos (by omega)] | (rw [if_neg (by omega)]; first | rw [if_pos (by omega)] | rw [if_neg (by omega)] | skip) | rw [if_neg (by omega)])))
        · refine zV_iload d_Mo_signRoots_207 rfl ?_
          refine zV_goto d_Mo_signRoots_209 ?_
          exact zS_iret d_Mo_signRoots_223 rfl ⟨Nat.zero_le _, Nat.zero_le _⟩ (by first | (exfalso; omega) | (refine ⟨?_, rfl⟩; rw [sCmb_2 (by omega) ht (by omega) (by omega) (by omega) (by omega)]; (first | rw [if_pos (by omega)] | (rw [if_neg (by omega)]; first | rw [if_pos (by omega)] | rw [if_neg (by omega)] | skip) | rw [if_neg (by omega)])))
      · refine zV_iload d_Mo_signRoots_152 rfl ?_
        refine zV_if_ne d_Mo_signRoots_154 (cmpI_i _ _) (fun c154 => ?_) (fun c154 => ?_)
        · refine zV_iload d_Mo_signRoots_162 rfl ?_
          exact zS_iret d_Mo_signRoots_164 rfl ⟨Nat.zero_le _, Nat.zero_le _⟩ (by first | (exfalso; omega) | (refine ⟨?_, rfl⟩; rw [sCmb_1 (by omega)]; (first | rw [if_pos (by omega)] | (rw [if_neg (by omega)]; first | rw [if_pos (by omega)] | rw [if_neg (by omega)] | skip) | rw [if_neg (by omega)])))
        · refine zV_iload d_Mo_signRoots_157 rfl ?_
          refine zV_goto d_Mo_signRoots_159 ?_
          exact zS_iret d_Mo_signRoots_164 rfl ⟨Nat.zero_le _, Nat.zero_le _⟩ (by first | (exfalso; omega) | (refine ⟨?_, rfl⟩; rw [sCmb_1 (by omega)]; (first | rw [if_pos (by omega)] | (rw [if_neg (by omega)]; first | rw [if_pos (by omega)] | rw [if_neg (by omega)] | skip) | rw [if_neg (by omega)])))
theorem s_Mo_signRoots_60 (mem : zMem) (n a d b e : Int) (hb : B5 n a d b e) (x y : Int) (hx : x = -1 ∨ x = 0 ∨ x = 1) (hy : y = -1 ∨ y = 0 ∨ y = 1) : zS zT m_Mo_signRoots (0, 0) 60 [some (1, n), none, some (1, a), none, some (1, d), none, some (1, b), none, some (1, e), none, some (0, (cmpI n 0)), some (0, x), some (0, y), none, none, none] [] mem (zQs (fun r m => r = some (0, sCmb (cmpI n 0) (sCmb x y (cmpI (a * a * d) (b * b * e))) (sg3 (n * n - a * a * d - b * b * e) (-2 * a * b) (d * e))) ∧ m = mem)) := by
  obtain ⟨⟨b1, b2⟩, ⟨b3, b4⟩, ⟨b5, b6⟩, ⟨b7, b8⟩, b9, b10⟩ := id hb
  have q1 := mb (⟨b1, b2⟩ : -2000 ≤ n ∧ n ≤ 2000) (⟨b1, b2⟩ : -2000 ≤ n ∧ n ≤ 2000)
  have q2 := mb (⟨b3, b4⟩ : -20 ≤ a ∧ a ≤ 20) (⟨b3, b4⟩ : -20 ≤ a ∧ a ≤ 20)
  have q3 := mb (⟨b7, b8⟩ : -20 ≤ b ∧ b ≤ 20) (⟨b7, b8⟩ : -20 ≤ b ∧ b ≤ 20)
  have q4 := mb q2 (⟨by omega, b6⟩ : -500 ≤ d ∧ d ≤ 500)
  have q5 := mb q3 (⟨by omega, b10⟩ : -500 ≤ e ∧ e ≤ 500)
  have q6 := mb (⟨by omega, b6⟩ : -500 ≤ d ∧ d ≤ 500) (⟨by omega, b10⟩ : -500 ≤ e ∧ e ≤ 500)
  have q7 := mb (⟨by omega, by omega⟩ : -40 ≤ -2 * a ∧ -2 * a ≤ 40) (⟨b7, b8⟩ : -20 ≤ b ∧ b ≤ 20)
  have q8 := mb (⟨by omega, by omega⟩ : -4400000 ≤ n * n - a * a * d - b * b * e ∧ n * n - a * a * d - b * b * e ≤ 4400000) (⟨by omega, by omega⟩ : -4400000 ≤ n * n - a * a * d - b * b * e ∧ n * n - a * a * d - b * b * e ≤ 4400000)
  have q9 := mb (mb q7 q7) q6
  have f3 := cmpI_3 (a * a * d - b * b * e) 0
  refine zV_lload_n d_Mo_signRoots_60 rfl ?_
  refine zV_lload_n d_Mo_signRoots_61 rfl ?_
  refine zV_lmul d_Mo_signRoots_62 ?_
  refine zV_lload d_Mo_signRoots_63 rfl ?_
  refine zV_lmul d_Mo_signRoots_65 ?_
  refine zV_lload d_Mo_signRoots_66 rfl ?_
  refine zV_lload d_Mo_signRoots_68 rfl ?_
  refine zV_lmul d_Mo_signRoots_70 ?_
  refine zV_lload d_Mo_signRoots_71 rfl ?_
  refine zV_lmul d_Mo_signRoots_73 ?_
  refine zV_lsub d_Mo_signRoots_74 ?_
  refine zS_invsE (mt' := m_Mo_signOf) (avs := [(1, (((a * a) * d) - ((b * b) * e)))]) (st := []) d_Mo_signRoots_75 l_Mo_132 k_Mo_signOf rfl rfl rfl rfl (s_Mo_signOf mem (((a * a) * d) - ((b * b) * e)) (by omega)) ?_
  show zS zT m_Mo_signRoots (0, 0) 78 [some (1, n), none, some (1, a), none, some (1, d), none, some (1, b), none, some (1, e), none, some (0, (cmpI n 0)), some (0, x), some (0, y), none, none, none] [(0, (cmpI (((a * a) * d) - ((b * b) * e)) 0))] mem _
  refine zV_istore (L' := [some (1, n), none, some (1, a), none, some (1, d), none, some (1, b), none, some (1, e), none, some (0, (cmpI n 0)), some (0, x), some (0, y), some (0, (cmpI (((a * a) * d) - ((b * b) * e)) 0)), none, none]) d_Mo_signRoots_78 (by decide) rfl ?_
  refine zV_iload d_Mo_signRoots_80 rfl ?_
  refine zV_if_eq d_Mo_signRoots_82 (by omega) (fun c82 => ?_) (fun c82 => ?_)
  · refine zV_iload d_Mo_signRoots_97 rfl ?_
    refine zV_if_ne d_Mo_signRoots_99 (by omega) (fun c99 => ?_) (fun c99 => ?_)
    · refine zV_iload d_Mo_signRoots_107 rfl ?_
      refine zV_goto d_Mo_signRoots_109 ?_
      refine zV_istore (L' := [some (1, n), none, some (1, a), none, some (1, d), none, some (1, b), none, some (1, e), none, some (0, (cmpI n 0)), some (0, x), some (0, y), some (0, (cmpI (((a * a) * d) - ((b * b) * e)) 0)), some (0, x), none]) d_Mo_signRoots_133 (by decide) rfl ?_
      first | (exfalso; omega) | (refine zV_forget (L' := [some (1, n), none, some (1, a), none, some (1, d), none, some (1, b), none, some (1, e), none, some (0, (cmpI n 0)), none, none, none, some (0, x), none]) (by simp [zle]) ?_; have ev : sCmb x y (cmpI (a * a * d) (b * b * e)) = x := (by rw [cmpI_d (a * a * d)]; first | (rw [sCmb_1 (by omega)]; (first | rw [if_pos (by omega)] | (rw [if_neg (by omega)]; first | rw [if_pos (by omega)] | rw [if_neg (by omega)] | skip) | rw [if_neg (by omega)])) | (rw [sCmb_2 hx hy (by omega) (by omega) (by omega) (by omega)]; (first | rw [if_pos (by omega)] | (rw [if_neg (by omega)]; first | rw [if_pos (by omega)] | rw [if_neg (by omega)] | skip) | rw [if_neg (by omega)]))); rw [ev]; exact s_Mo_signRoots_135 mem n a d b e hb x (by omega))
    · refine zV_iload d_Mo_signRoots_102 rfl ?_
      refine zV_goto d_Mo_signRoots_104 ?_
      refine zV_istore (L' := [some (1, n), none, some (1, a), none, some (1, d), none, some (1, b), none, some (1, e), none, some (0, (cmpI n 0)), some (0, x), some (0, y), some (0, (cmpI (((a * a) * d) - ((b * b) * e)) 0)), some (0, y), none]) d_Mo_signRoots_133 (by decide) rfl ?_
      first | (exfalso; omega) | (refine zV_forget (L' := [some (1, n), none, some (1, a), none, some (1, d), none, some (1, b), none, some (1, e), none, some (0, (cmpI n 0)), none, none, none, some (0, y), none]) (by simp [zle]) ?_; have ev : sCmb x y (cmpI (a * a * d) (b * b * e)) = y := (by rw [cmpI_d (a * a * d)]; first | (rw [sCmb_1 (by omega)]; (first | rw [if_pos (by omega)] | (rw [if_neg (by omega)]; first | rw [if_pos (by omega)] | rw [if_neg (by omega)] | skip) | rw [if_neg (by omega)])) | (rw [sCmb_2 hx hy (by omega) (by omega) (by omega) (by omega)]; (first | rw [if_pos (by omega)] | (rw [if_neg (by omega)]; first | rw [if_pos (by omega)] | rw [if_neg (by omega)] | skip) | rw [if_neg (by omega)]))); rw [ev]; exact s_Mo_signRoots_135 mem n a d b e hb y (by omega))
  · refine zV_iload d_Mo_signRoots_85 rfl ?_
    refine zV_if_eq d_Mo_signRoots_87 (by omega) (fun c87 => ?_) (fun c87 => ?_)
    · refine zV_iload d_Mo_signRoots_97 rfl ?_
      refine zV_if_ne d_Mo_signRoots_99 (by omega) (fun c99 => ?_) (fun c99 => ?_)
      · refine zV_iload d_Mo_signRoots_107 rfl ?_
        refine zV_goto d_Mo_signRoots_109 ?_
        refine zV_istore (L' := [some (1, n), none, some (1, a), none, some (1, d), none, some (1, b), none, some (1, e), none, some (0, (cmpI n 0)), some (0, x), some (0, y), some (0, (cmpI (((a * a) * d) - ((b * b) * e)) 0)), some (0, x), none]) d_Mo_signRoots_133 (by decide) rfl ?_
        first | (exfalso; omega) | (refine zV_forget (L' := [some (1, n), none, some (1, a), none, some (1, d), none, some (1, b), none, some (1, e), none, some (0, (cmpI n 0)), none, none, none, some (0, x), none]) (by simp [zle]) ?_; have ev : sCmb x y (cmpI (a * a * d) (b * b * e)) = x := (by rw [cmpI_d (a * a * d)]; first | (rw [sCmb_1 (by omega)]; (first | rw [if_pos (by omega)] | (rw [if_neg (by omega)]; first | rw [if_pos (by omega)] | rw [if_neg (by omega)] | skip) | rw [if_neg (by omega)])) | (rw [sCmb_2 hx hy (by omega) (by omega) (by omega) (by omega)]; (first | rw [if_pos (by omega)] | (rw [if_neg (by omega)]; first | rw [if_pos (by omega)] | rw [if_neg (by omega)] | skip) | rw [if_neg (by omega)]))); rw [ev]; exact s_Mo_signRoots_135 mem n a d b e hb x (by omega))
      · refine zV_iload d_Mo_signRoots_102 rfl ?_
        refine zV_goto d_Mo_signRoots_104 ?_
        refine zV_istore (L' := [some (1, n), none, some (1, a), none, some (1, d), none, some (1, b), none, some (1, e), none, some (0, (cmpI n 0)), some (0, x), some (0, y), some (0, (cmpI (((a * a) * d) - ((b * b) * e)) 0)), some (0, y), none]) d_Mo_signRoots_133 (by decide) rfl ?_
        first | (exfalso; omega) | (refine zV_forget (L' := [some (1, n), none, some (1, a), none, some (1, d), none, some (1, b), none, some (1, e), none, some (0, (cmpI n 0)), none, none, none, some (0, y), none]) (by simp [zle]) ?_; have ev : sCmb x y (cmpI (a * a * d) (b * b * e)) = y := (by rw [cmpI_d (a * a * d)]; first | (rw [sCmb_1 (by omega)]; (first | rw [if_pos (by omega)] | (rw [if_neg (by omega)]; first | rw [if_pos (by omega)] | rw [if_neg (by omega)] | skip) | rw [if_neg (by omega)])) | (rw [sCmb_2 hx hy (by omega) (by omega) (by omega) (by omega)]; (first | rw [if_pos (by omega)] | (rw [if_neg (by omega)]; first | rw [if_pos (by omega)] | rw [if_neg (by omega)] | skip) | rw [if_neg (by omega)]))); rw [ev]; exact s_Mo_signRoots_135 mem n a d b e hb y (by omega))
    · refine zV_iload d_Mo_signRoots_90 rfl ?_
      refine zV_iload d_Mo_signRoots_92 rfl ?_
      refine zV_icmp_ne d_Mo_signRoots_94 (by omega) (by omega) (fun c94 => ?_) (fun c94 => ?_)
      · refine zV_iload d_Mo_signRoots_112 rfl ?_
        refine zV_if_le d_Mo_signRoots_114 (cmpI_i _ _) (fun c114 => ?_) (fun c114 => ?_)
        · refine zV_iload d_Mo_signRoots_122 rfl ?_
          refine zV_if_ge d_Mo_signRoots_124 (cmpI_i _ _) (fun c124 => ?_) (fun c124 => ?_)
          · refine zV_iconst d_Mo_signRoots_132 ?_
            refine zV_istore (L' := [some (1, n), none, some (1, a), none, some (1, d), none, some (1, b), none, some (1, e), none, some (0, (cmpI n 0)), some (0, x), some (0, y), some (0, (cmpI (((a * a) * d) - ((b * b) * e)) 0)), some (0, 0), none]) d_Mo_signRoots_133 (by decide) rfl ?_
            first | (exfalso; omega) | (refine zV_forget (L' := [some (1, n), none, some (1, a), none, some (1, d), none, some (1, b), none, some (1, e), none, some (0, (cmpI n 0)), none, none, none, some (0, 0), none]) (by simp [zle]) ?_; have ev : sCmb x y (cmpI (a * a * d) (b * b * e)) = 0 := (by rw [cmpI_d (a * a * d)]; first | (rw [sCmb_1 (by omega)]; (first | rw [if_pos (by omega)] | (rw [if_neg (by omega)]; first | rw [if_pos (by omega)] | rw [if_neg (by omega)] | skip) | rw [if_neg (by omega)])) | (rw [sCmb_2 hx hy (by omega) (by omega) (by omega) (by omega)]; (first | rw [if_pos (by omega)] | (rw [if_neg (by omega)]; first | rw [if_pos (by omega)] | rw [if_neg (by omega)] | skip) | rw [if_neg (by omega)]))); rw [ev]; exact s_Mo_signRoots_135 mem n a d b e hb 0 (by omega))
          · refine zV_iload d_Mo_signRoots_127 rfl ?_
            refine zV_goto d_Mo_signRoots_129 ?_
            refine zV_istore (L' := [some (1, n), none, some (1, a), none, some (1, d), none, some (1, b), none, some (1, e), none, some (0, (cmpI n 0)), some (0, x), some (0, y), some (0, (cmpI (((a * a) * d) - ((b * b) * e)) 0)), some (0, y), none]) d_Mo_signRoots_133 (by decide) rfl ?_
            first | (exfalso; omega) | (refine zV_forget (L' := [some (1, n), none, some (1, a), none, some (1, d), none, some (1, b), none, some (1, e), none, some (0, (cmpI n 0)), none, none, none, some (0, y), none]) (by simp [zle]) ?_; have ev : sCmb x y (cmpI (a * a * d) (b * b * e)) = y := (by rw [cmpI_d (a * a * d)]; first | (rw [sCmb_1 (by omega)]; (first | rw [if_pos (by omega)] | (rw [if_neg (by omega)]; first | rw [if_pos (by omega)] | rw [if_neg (by omega)] | skip) | rw [if_neg (by omega)])) | (rw [sCmb_2 hx hy (by omega) (by omega) (by omega) (by omega)]; (first | rw [if_pos (by omega)] | (rw [if_neg (by omega)]; first | rw [if_pos (by omega)] | rw [if_neg (by omega)] | skip) | rw [if_neg (by omega)]))); rw [ev]; exact s_Mo_signRoots_135 mem n a d b e hb y (by omega))
        · refine zV_iload d_Mo_signRoots_117 rfl ?_
          refine zV_goto d_Mo_signRoots_119 ?_
          refine zV_istore (L' := [some (1, n), none, some (1, a), none, some (1, d), none, some (1, b), none, some (1, e), none, some (0, (cmpI n 0)), some (0, x), some (0, y), some (0, (cmpI (((a * a) * d) - ((b * b) * e)) 0)), some (0, x), none]) d_Mo_signRoots_133 (by decide) rfl ?_
          first | (exfalso; omega) | (refine zV_forget (L' := [some (1, n), none, some (1, a), none, some (1, d), none, some (1, b), none, some (1, e), none, some (0, (cmpI n 0)), none, none, none, some (0, x), none]) (by simp [zle]) ?_; have ev : sCmb x y (cmpI (a * a * d) (b * b * e)) = x := (by rw [cmpI_d (a * a * d)]; first | (rw [sCmb_1 (by omega)]; (first | rw [if_pos (by omega)] | (rw [if_neg (by omega)]; first | rw [if_pos (by omega)] | rw [if_neg (by omega)] | skip) | rw [if_neg (by omega)])) | (rw [sCmb_2 hx hy (by omega) (by omega) (by omega) (by omega)]; (first | rw [if_pos (by omega)] | (rw [if_neg (by omega)]; first | rw [if_pos (by omega)] | rw [if_neg (by omega)] | skip) | rw [if_neg (by omega)]))); rw [ev]; exact s_Mo_signRoots_135 mem n a d b e hb x (by omega))
      · refine zV_iload d_Mo_signRoots_97 rfl ?_
        refine zV_if_ne d_Mo_signRoots_99 (by omega) (fun c99 => ?_) (fun c99 => ?_)
        · refine zV_iload d_Mo_signRoots_107 rfl ?_
          refine zV_goto d_Mo_signRoots_109 ?_
          refine zV_istore (L' := [some (1, n), none, some (1, a), none, some (1, d), none, some (1, b), none, some (1, e), none, some (0, (cmpI n 0)), some (0, x), some (0, y), some (0, (cmpI (((a * a) * d) - ((b * b) * e)) 0)), some (0, x), none]) d_Mo_signRoots_133 (by decide) rfl ?_
          first | (exfalso; omega) | (refine zV_forget (L' := [some (1, n), none, some (1, a), none, some (1, d), none, some (1, b), none, some (1, e), none, some (0, (cmpI n 0)), none, none, none, some (0, x), none]) (by simp [zle]) ?_; have ev : sCmb x y (cmpI (a * a * d) (b * b * e)) = x := (by rw [cmpI_d (a * a * d)]; first | (rw [sCmb_1 (by omega)]; (first | rw [if_pos (by omega)] | (rw [if_neg (by omega)]; first | rw [if_pos (by omega)] | rw [if_neg (by omega)] | skip) | rw [if_neg (by omega)])) | (rw [sCmb_2 hx hy (by omega) (by omega) (by omega) (by omega)]; (first | rw [if_pos (by omega)] | (rw [if_neg (by omega)]; first | rw [if_pos (by omega)] | rw [if_neg (by omega)] | skip) | rw [if_neg (by omega)]))); rw [ev]; exact s_Mo_signRoots_135 mem n a d b e hb x (by omega))
        · refine zV_iload d_Mo_signRoots_102 rfl ?_
          refine zV_goto d_Mo_signRoots_104 ?_
          refine zV_istore (L' := [some (1, n), none, some (1, a), none, some (1, d), none, some (1, b), none, some (1, e), none, some (0, (cmpI n 0)), some (0, x), some (0, y), some (0, (cmpI (((a * a) * d) - ((b * b) * e)) 0)), some (0, y), none]) d_Mo_signRoots_133 (by decide) rfl ?_
          first | (exfalso; omega) | (refine zV_forget (L' := [some (1, n), none, some (1, a), none, some (1, d), none, some (1, b), none, some (1, e), none, some (0, (cmpI n 0)), none, none, none, some (0, y), none]) (by simp [zle]) ?_; have ev : sCmb x y (cmpI (a * a * d) (b * b * e)) = y := (by rw [cmpI_d (a * a * d)]; first | (rw [sCmb_1 (by omega)]; (first | rw [if_pos (by omega)] | (rw [if_neg (by omega)]; first | rw [if_pos (by omega)] | rw [if_neg (by omega)] | skip) | rw [if_neg (by omega)])) | (rw [sCmb_2 hx hy (by omega) (by omega) (by omega) (by omega)]; (first | rw [if_pos (by omega)] | (rw [if_neg (by omega)]; first | rw [if_pos (by omega)] | rw [if_neg (by omega)] | skip) | rw [if_neg (by omega)]))); rw [ev]; exact s_Mo_signRoots_135 mem n a d b e hb y (by omega))
theorem s_Mo_signRoots (mem : zMem) (n a d b e : Int) (hb : B5 n a d b e) : zF m_Mo_signRoots [(1, n), (1, a), (1, d), (1, b), (1, e)] mem (fun r m => r = some (0, sRs n a d b e) ∧ m = mem) := by
  obtain ⟨⟨b1, b2⟩, ⟨b3, b4⟩, ⟨b5, b6⟩, ⟨b7, b8⟩, b9, b10⟩ := id hb
  have q1 := mb (⟨b1, b2⟩ : -2000 ≤ n ∧ n ≤ 2000) (⟨b1, b2⟩ : -2000 ≤ n ∧ n ≤ 2000)
  have q2 := mb (⟨b3, b4⟩ : -20 ≤ a ∧ a ≤ 20) (⟨b3, b4⟩ : -20 ≤ a ∧ a ≤ 20)
  have q3 := mb (⟨b7, b8⟩ : -20 ≤ b ∧ b ≤ 20) (⟨b7, b8⟩ : -20 ≤ b ∧ b ≤ 20)
  have q4 := mb q2 (⟨by omega, b6⟩ : -500 ≤ d ∧ d ≤ 500)
  have q5 := mb q3 (⟨by omega, b10⟩ : -500 ≤ e ∧ e ≤ 500)
  have q6 := mb (⟨by omega, b6⟩ : -500 ≤ d ∧ d ≤ 500) (⟨by omega, b10⟩ : -500 ≤ e ∧ e ≤ 500)
  have q7 := mb (⟨by omega, by omega⟩ : -40 ≤ -2 * a ∧ -2 * a ≤ 40) (⟨b7, b8⟩ : -20 ≤ b ∧ b ≤ 20)
  have q8 := mb (⟨by omega, by omega⟩ : -4400000 ≤ n * n - a * a * d - b * b * e ∧ n * n - a * a * d - b * b * e ≤ 4400000) (⟨by omega, by omega⟩ : -4400000 ≤ n * n - a * a * d - b * b * e ∧ n * n - a * a * d - b * b * e ≤ 4400000)
  have q9 := mb (mb q7 q7) q6
  have f1 := cmpI_3 a 0
  have f2 := cmpI_3 b 0
  have q10 := mb (⟨by omega, by omega⟩ : -40 ≤ a + b ∧ a + b ≤ 40) (⟨by omega, by omega⟩ : -40 ≤ a + b ∧ a + b ≤ 40)
  have q11 := mb q10 (⟨by omega, b6⟩ : -500 ≤ d ∧ d ≤ 500)
  refine zF_of (by decide) (Nat.le_of_ble_eq_true rfl) ?_
  show zS zT m_Mo_signRoots (0, 0) 0 [some (1, n), none, some (1, a), none, some (1, d), none, some (1, b), none, some (1, e), none, none, none, none, none, none, none] [] mem _
  refine zV_lload d_Mo_signRoots_0 rfl ?_
  refine zV_lload d_Mo_signRoots_2 rfl ?_
  refine zV_lcmp_ne d_Mo_signRoots_4 d_Mo_signRoots_5 (by omega) (by omega) (fun c4 => ?_) (fun c4 => ?_)
  · refine zV_lload_n d_Mo_signRoots_19 rfl ?_
    refine zS_invsE (mt' := m_Mo_signOf) (avs := [(1, n)]) (st := []) d_Mo_signRoots_20 l_Mo_132 k_Mo_signOf rfl rfl rfl rfl (s_Mo_signOf mem n (by omega)) ?_
    show zS zT m_Mo_signRoots (0, 0) 23 [some (1, n), none, some (1, a), none, some (1, d), none, some (1, b), none, some (1, e), none, none, none, none, none, none, none] [(0, (cmpI n 0))] mem _
    refine zV_istore (L' := [some (1, n), none, some (1, a), none, some (1, d), none, some (1, b), none, some (1, e), none, some (0, (cmpI n 0)), none, none, none, none, none]) d_Mo_signRoots_23 (by decide) rfl ?_
    refine zV_lload d_Mo_signRoots_25 rfl ?_
    refine zV_lconst0 d_Mo_signRoots_27 ?_
    refine zV_lcmp_ne d_Mo_signRoots_28 d_Mo_signRoots_29 (by omega) (by omega) (fun c28 => ?_) (fun c28 => ?_)
    · refine zV_lload_n d_Mo_signRoots_36 rfl ?_
      refine zS_invsE (mt' := m_Mo_signOf) (avs := [(1, a)]) (st := []) d_Mo_signRoots_37 l_Mo_132 k_Mo_signOf rfl rfl rfl rfl (s_Mo_signOf mem a (by omega)) ?_
      show zS zT m_Mo_signRoots (0, 0) 40 [some (1, n), none, some (1, a), none, some (1, d), none, some (1, b), none, some (1, e), none, some (0, (cmpI n 0)), none, none, none, none, none] [(0, (cmpI a 0))] mem _
      refine zV_istore (L' := [some (1, n), none, some (1, a), none, some (1, d), none, some (1, b), none, some (1, e), none, some (0, (cmpI n 0)), some (0, (cmpI a 0)), none, none, none, none]) d_Mo_signRoots_40 (by decide) rfl ?_
      refine zV_lload d_Mo_signRoots_42 rfl ?_
      refine zV_lconst0 d_Mo_signRoots_44 ?_
      refine zV_lcmp_ne d_Mo_signRoots_45 d_Mo_signRoots_46 (by omega) (by omega) (fun c45 => ?_) (fun c45 => ?_)
      · refine zV_lload d_Mo_signRoots_53 rfl ?_
        refine zS_invsE (mt' := m_Mo_signOf) (avs := [(1, b)]) (st := []) d_Mo_signRoots_55 l_Mo_132 k_Mo_signOf rfl rfl rfl rfl (s_Mo_signOf mem b (by omega)) ?_
        show zS zT m_Mo_signRoots (0, 0) 58 [some (1, n), none, some (1, a), none, some (1, d), none, some (1, b), none, some (1, e), none, some (0, (cmpI n 0)), some (0, (cmpI a 0)), none, none, none, none] [(0, (cmpI b 0))] mem _
        refine zV_istore (L' := [some (1, n), none, some (1, a), none, some (1, d), none, some (1, b), none, some (1, e), none, some (0, (cmpI n 0)), some (0, (cmpI a 0)), some (0, (cmpI b 0)), none, none, none]) d_Mo_signRoots_58 (by decide) rfl ?_
        have e1 : (if d = 0 then 0 else cmpI a 0) = (cmpI a 0) := by first | rw [if_pos (by omega)] | rw [if_neg (by omega)]
        have e2 : (if e = 0 then 0 else cmpI b 0) = (cmpI b 0) := by first | rw [if_pos (by omega)] | rw [if_neg (by omega)]
        unfold sRs
        rw [if_neg (show ¬ d = e by omega), e1, e2]
        exact s_Mo_signRoots_60 mem n a d b e hb (cmpI a 0) (cmpI b 0) (by omega) (by omega)
      · refine zV_iconst d_Mo_signRoots_49 ?_
        refine zV_goto d_Mo_signRoots_50 ?_
        refine zV_istore (L' := [some (1, n), none, some (1, a), none, some (1, d), none, some (1, b), none, some (1, e), none, some (0, (cmpI n 0)), some (0, (cmpI a 0)), some (0, 0), none, none, none]) d_Mo_signRoots_58 (by decide) rfl ?_
        have e1 : (if d = 0 then 0 else cmpI a 0) = (cmpI a 0) := by first | rw [if_pos (by omega)] | rw [if_neg (by omega)]
        have e2 : (if e = 0 then 0 else cmpI b 0) = 0 := by first | rw [if_pos (by omega)] | rw [if_neg (by omega)]
        unfold sRs
        rw [if_neg (show ¬ d = e by omega), e1, e2]
        exact s_Mo_signRoots_60 mem n a d b e hb (cmpI a 0) 0 (by omega) (by omega)
    · refine zV_iconst d_Mo_signRoots_32 ?_
      refine zV_goto d_Mo_signRoots_33 ?_
      refine zV_istore (L' := [some (1, n), none, some (1, a), none, some (1, d), none, some (1, b), none, some (1, e), none, some (0, (cmpI n 0)), some (0, 0), none, none, none, none]) d_Mo_signRoots_40 (by decide) rfl ?_
      refine zV_lload d_Mo_signRoots_42 rfl ?_
      refine zV_lconst0 d_Mo_signRoots_44 ?_
      refine zV_lcmp_ne d_Mo_signRoots_45 d_Mo_signRoots_46 (by omega) (by omega) (fun c45 => ?_) (fun c45 => ?_)
      · refine zV_lload d_Mo_signRoots_53 rfl ?_
        refine zS_invsE (mt' := m_Mo_signOf) (avs := [(1, b)]) (st := []) d_Mo_signRoots_55 l_Mo_132 k_Mo_signOf rfl rfl rfl rfl (s_Mo_signOf mem b (by omega)) ?_
        show zS zT m_Mo_signRoots (0, 0) 58 [some (1, n), none, some (1, a), none, some (1, d), none, some (1, b), none, some (1, e), none, some (0, (cmpI n 0)), some (0, 0), none, none, none, none] [(0, (cmpI b 0))] mem _
        refine zV_istore (L' := [some (1, n), none, some (1, a), none, some (1, d), none, some (1, b), none, some (1, e), none, some (0, (cmpI n 0)), some (0, 0), some (0, (cmpI b 0)), none, none, none]) d_Mo_signRoots_58 (by decide) rfl ?_
        have e1 : (if d = 0 then 0 else cmpI a 0) = 0 := by first | rw [if_pos (by omega)] | rw [if_neg (by omega)]
        have e2 : (if e = 0 then 0 else cmpI b 0) = (cmpI b 0) := by first | rw [if_pos (by omega)] | rw [if_neg (by omega)]
        unfold sRs
        rw [if_neg (show ¬ d = e by omega), e1, e2]
        exact s_Mo_signRoots_60 mem n a d b e hb 0 (cmpI b 0) (by omega) (by omega)
      · refine zV_iconst d_Mo_signRoots_49 ?_
        refine zV_goto d_Mo_signRoots_50 ?_
        refine zV_istore (L' := [some (1, n), none, some (1, a), none, some (1, d), none, some (1, b), none, some (1, e), none, some (0, (cmpI n 0)), some (0, 0), some (0, 0), none, none, none]) d_Mo_signRoots_58 (by decide) rfl ?_
        have e1 : (if d = 0 then 0 else cmpI a 0) = 0 := by first | rw [if_pos (by omega)] | rw [if_neg (by omega)]
        have e2 : (if e = 0 then 0 else cmpI b 0) = 0 := by first | rw [if_pos (by omega)] | rw [if_neg (by omega)]
        unfold sRs
        rw [if_neg (show ¬ d = e by omega), e1, e2]
        exact s_Mo_signRoots_60 mem n a d b e hb 0 0 (by omega) (by omega)
  · refine zV_lload_n d_Mo_signRoots_8 rfl ?_
    refine zV_lload_n d_Mo_signRoots_9 rfl ?_
    refine zV_lload d_Mo_signRoots_10 rfl ?_
    refine zV_ladd d_Mo_signRoots_12 ?_
    refine zV_lload d_Mo_signRoots_13 rfl ?_
    refine zS_invsE (mt' := m_Mo_signRoot) (avs := [(1, n), (1, (a + b)), (1, d)]) (st := []) d_Mo_signRoots_15 l_Mo_136 k_Mo_signRoot rfl rfl rfl rfl (s_Mo_signRoot mem n (a + b) d (by omega) (by omega) (by omega) (fun _ => by omega)) ?_
    show zS zT m_Mo_signRoots (0, 0) 18 [some (1, n), none, some (1, a), none, some (1, d), none, some (1, b), none, some (1, e), none, none, none, none, none, none, none] [(0, (sg3 n (a + b) d))] mem _
    exact zS_iret d_Mo_signRoots_18 rfl ⟨Nat.zero_le _, Nat.zero_le _⟩ (by refine ⟨?_, rfl⟩; unfold sRs; rw [if_pos (by omega)])
