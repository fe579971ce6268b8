/-! exact signs and roots -/
theorem cmpI_i (a b : Int) : I32 (cmpI a b) := by have := cmpI_r a b; omega
theorem mb {a b A B : Int} (ha : -A ≤ a ∧ a ≤ A) (hb : -B ≤ b ∧ b ≤ B) : -(A * B) ≤ a * b ∧ a * b ≤ A * B := by
  have h1 : 0 ≤ (A - a) * (B + b) := Int.mul_nonneg (by omega) (by omega)
  have h2 : 0 ≤ (A + a) * (B - b) := Int.mul_nonneg (by omega) (by omega)
  have h3 : 0 ≤ (A - a) * (B - b) := Int.mul_nonneg (by omega) (by omega)
  have h4 : 0 ≤ (A + a) * (B + b) := Int.mul_nonneg (by omega) (by omega)
  simp only [Int.sub_mul, Int.add_mul, Int.mul_sub, Int.mul_add] at h1 h2 h3 h4
  omega
def sg3 (u v d : Int) : Int := if cmpI u 0 = 0 ∨ cmpI u 0 = (if d = 0 then 0 else cmpI v 0) then (if d = 0 then 0 else cmpI v 0) else if (if d = 0 then 0 else cmpI v 0) = 0 then cmpI u 0 else cmpI u 0 * cmpI (u * u) (v * v * d)
def sg5 (u v d w e : Int) : Int := if sg3 u v d = 0 ∨ sg3 u v d = sg3 0 w e then sg3 0 w e else if sg3 0 w e = 0 then sg3 u v d else sg3 u v d * sg3 (u * u + v * v * d - w * w * e) (2 * u * v) d
theorem cmpI_3 (a b : Int) : cmpI a b = -1 ∨ cmpI a b = 0 ∨ cmpI a b = 1 := by unfold cmpI; (repeat' split) <;> simp
theorem sgm {a b : Int} (ha : a = -1 ∨ a = 0 ∨ a = 1) (hb : b = -1 ∨ b = 0 ∨ b = 1) : a * b = -1 ∨ a * b = 0 ∨ a * b = 1 := by
  rcases ha with rfl | rfl | rfl <;> rcases hb with rfl | rfl | rfl <;> simp
theorem sg3_3 (u v d : Int) : sg3 u v d = -1 ∨ sg3 u v d = 0 ∨ sg3 u v d = 1 := by
  have h1 := cmpI_3 u 0
  have h2 := cmpI_3 v 0
  have h3 := sgm h1 (cmpI_3 (u * u) (v * v * d))
  unfold sg3
  (repeat' split) <;> first | exact h1 | exact h2 | exact h3 | simp
theorem sg5_3 (u v d w e : Int) : sg5 u v d w e = -1 ∨ sg5 u v d w e = 0 ∨ sg5 u v d w e = 1 := by
  unfold sg5
  (repeat' split) <;> first | exact sg3_3 _ _ _ | exact sgm (sg3_3 _ _ _) (sg3_3 _ _ _)
theorem sg3_i (u v d : Int) : I32 (sg3 u v d) := by have := sg3_3 u v d; omega
theorem sg5_i (u v d w e : Int) : I32 (sg5 u v d w e) := by have := sg5_3 u v d w e; omega
/-- bounds under which nothing wraps -/
def B3 (u v d : Int) : Prop := (-1000000000 ≤ u ∧ u ≤ 1000000000) ∧ (-1000000 ≤ v ∧ v ≤ 1000000) ∧ (-1000000 ≤ d ∧ d ≤ 1000000)
theorem B3_i {u v d : Int} (h : B3 u v d) : I64 u ∧ I64 v ∧ I64 d ∧ I64 (u * u) ∧ I64 (v * v * d) := by
  obtain ⟨h1, h2, h3⟩ := h
  have a1 := mb h1 h1
  have a2 := mb h2 h2
  have a3 := mb a2 h3
  refine ⟨by omega, by omega, by omega, by omega, by omega⟩
theorem s_Ex_sign3 (mem : zMem) (u v d : Int) (hb : B3 u v d) : zF m_Ex_sign3 [(1, u), (1, v), (1, d)] mem (fun r m => r = some (0, sg3 u v d) ∧ m = mem) := by
  obtain ⟨b1, b2, b3, b4, b5⟩ := B3_i hb
  have e0 := cmpI_3 u 0
  refine zF_of (by decide) (Nat.le_of_ble_eq_true rfl) ?_
  show zS zT m_Ex_sign3 (0, 0) 0 [some (1, u), none, some (1, v), none, some (1, d), none, none, none] [] mem _
  refine zV_lload_n d_Ex_sign3_0 rfl ?_
  refine zV_lconst0 d_Ex_sign3_1 ?_
  refine zS_invsE (mt' := m_Lo_compare) (avs := [(1, u), (1, 0)]) (st := []) d_Ex_sign3_2 l_Ex_7 k_Lo_compare rfl rfl rfl rfl (s_Lo_compare mem u 0 (by omega) (by omega)) ?_
  show zS zT m_Ex_sign3 (0, 0) 5 [some (1, u), none, some (1, v), none, some (1, d), none, none, none] [(0, (cmpI u 0))] mem _
  refine zV_istore (L' := [some (1, u), none, some (1, v), none, some (1, d), none, some (0, (cmpI u 0)), none]) d_Ex_sign3_5 (by decide) rfl ?_
  refine zV_lload d_Ex_sign3_7 rfl ?_
  refine zV_lconst0 d_Ex_sign3_9 ?_
  refine zV_lcmp_ne d_Ex_sign3_10 d_Ex_sign3_11 (by omega) (by omega) (fun c10 => ?_) (fun c10 => ?_)
  · refine zV_lload_n d_Ex_sign3_18 rfl ?_
    refine zV_lconst0 d_Ex_sign3_19 ?_
    refine zS_invsE (mt' := m_Lo_compare) (avs := [(1, v), (1, 0)]) (st := []) d_Ex_sign3_20 l_Ex_7 k_Lo_compare rfl rfl rfl rfl (s_Lo_compare mem v 0 (by omega) (by omega)) ?_
    show zS zT m_Ex_sign3 (0, 0) 23 [some (1, u), none, some (1, v), none, some (1, d), none, some (0, (cmpI u 0)), none] [(0, (cmpI v 0))] mem _
    refine zV_istore (L' := [some (1, u), none, some (1, v), none, some (1, d), none, some (0, (cmpI u 0)), some (0, (cmpI v 0))]) d_Ex_sign3_23 (by decide) rfl ?_
    refine zV_iload d_Ex_sign3_25 rfl ?_
    refine zV_if_eq d_Ex_sign3_27 (cmpI_i _ _) (fun c27 => ?_) (fun c27 => ?_)
    · refine zV_iload d_Ex_sign3_37 rfl ?_
      exact zS_iret d_Ex_sign3_39 rfl ⟨Nat.zero_le _, Nat.zero_le _⟩ (by refine ⟨?_, rfl⟩; unfold sg3; simp_all)
    · refine zV_iload d_Ex_sign3_30 rfl ?_
      refine zV_iload d_Ex_sign3_32 rfl ?_
      refine zV_icmp_ne d_Ex_sign3_34 (cmpI_i _ _) (cmpI_i _ _) (fun c34 => ?_) (fun c34 => ?_)
      · refine zV_iload d_Ex_sign3_40 rfl ?_
        refine zV_if_ne d_Ex_sign3_42 (cmpI_i _ _) (fun c42 => ?_) (fun c42 => ?_)
        · refine zV_iload d_Ex_sign3_50 rfl ?_
          refine zV_lload_n d_Ex_sign3_52 rfl ?_
          refine zV_lload_n d_Ex_sign3_53 rfl ?_
          refine zV_lmul d_Ex_sign3_54 ?_
          refine zV_lload_n d_Ex_sign3_55 rfl ?_
          refine zV_lload_n d_Ex_sign3_56 rfl ?_
          refine zV_lmul d_Ex_sign3_57 ?_
          refine zV_lload d_Ex_sign3_58 rfl ?_
          refine zV_lmul d_Ex_sign3_60 ?_
          refine zS_invsE (mt' := m_Lo_compare) (avs := [(1, (u * u)), (1, ((v * v) * d))]) (st := [(0, (cmpI u 0))]) d_Ex_sign3_61 l_Ex_7 k_Lo_compare rfl rfl rfl rfl (s_Lo_compare mem (u * u) ((v * v) * d) b4 b5) ?_
          show zS zT m_Ex_sign3 (0, 0) 64 [some (1, u), none, some (1, v), none, some (1, d), none, some (0, (cmpI u 0)), some (0, (cmpI v 0))] [(0, (cmpI (u * u) ((v * v) * d))), (0, (cmpI u 0))] mem _
          refine zV_imul d_Ex_sign3_64 ?_
          exact zS_iret d_Ex_sign3_65 rfl ⟨Nat.zero_le _, Nat.zero_le _⟩ (by refine ⟨?_, rfl⟩; unfold sg3; simp_all)
        · refine zV_iload d_Ex_sign3_45 rfl ?_
          refine zV_goto d_Ex_sign3_47 ?_
          exact zS_iret d_Ex_sign3_65 rfl ⟨Nat.zero_le _, Nat.zero_le _⟩ (by refine ⟨?_, rfl⟩; unfold sg3; simp_all)
      · refine zV_iload d_Ex_sign3_37 rfl ?_
        exact zS_iret d_Ex_sign3_39 rfl ⟨Nat.zero_le _, Nat.zero_le _⟩ (by refine ⟨?_, rfl⟩; unfold sg3; simp_all)
  · refine zV_iconst d_Ex_sign3_14 ?_
    refine zV_goto d_Ex_sign3_15 ?_
    refine zV_istore (L' := [some (1, u), none, some (1, v), none, some (1, d), none, some (0, (cmpI u 0)), some (0, 0)]) d_Ex_sign3_23 (by decide) rfl ?_
    refine zV_iload d_Ex_sign3_25 rfl ?_
    refine zV_if_eq d_Ex_sign3_27 (cmpI_i _ _) (fun c27 => ?_) (fun c27 => ?_)
    · refine zV_iload d_Ex_sign3_37 rfl ?_
      exact zS_iret d_Ex_sign3_39 rfl ⟨Nat.zero_le _, Nat.zero_le _⟩ (by refine ⟨?_, rfl⟩; unfold sg3; simp_all)
    · refine zV_iload d_Ex_sign3_30 rfl ?_
      refine zV_iload d_Ex_sign3_32 rfl ?_
      refine zV_icmp_ne d_Ex_sign3_34 (cmpI_i _ _) (by omega) (fun c34 => ?_) (fun c34 => ?_)
      · refine zV_iload d_Ex_sign3_40 rfl ?_
        refine zV_if_ne d_Ex_sign3_42 (by omega) (fun c42 => ?_) (fun c42 => ?_)
        · refine zV_iload d_Ex_sign3_50 rfl ?_
          refine zV_lload_n d_Ex_sign3_52 rfl ?_
          refine zV_lload_n d_Ex_sign3_53 rfl ?_
          refine zV_lmul d_Ex_sign3_54 ?_
          refine zV_lload_n d_Ex_sign3_55 rfl ?_
          refine zV_lload_n d_Ex_sign3_56 rfl ?_
          refine zV_lmul d_Ex_sign3_57 ?_
          refine zV_lload d_Ex_sign3_58 rfl ?_
          refine zV_lmul d_Ex_sign3_60 ?_
          refine zS_invsE (mt' := m_Lo_compare) (avs := [(1, (u * u)), (1, ((v * v) * d))]) (st := [(0, (cmpI u 0))]) d_Ex_sign3_61 l_Ex_7 k_Lo_compare rfl rfl rfl rfl (s_Lo_compare mem (u * u) ((v * v) * d) b4 b5) ?_
          show zS zT m_Ex_sign3 (0, 0) 64 [some (1, u), none, some (1, v), none, some (1, d), none, some (0, (cmpI u 0)), some (0, 0)] [(0, (cmpI (u * u) ((v * v) * d))), (0, (cmpI u 0))] mem _
          refine zV_imul d_Ex_sign3_64 ?_
          exact zS_iret d_Ex_sign3_65 rfl ⟨Nat.zero_le _, Nat.zero_le _⟩ (by refine ⟨?_, rfl⟩; unfold sg3; simp_all)
        · refine zV_iload d_Ex_sign3_45 rfl ?_
          refine zV_goto d_Ex_sign3_47 ?_
          exact zS_iret d_Ex_sign3_65 rfl ⟨Nat.zero_le _, Nat.zero_le _⟩ (by refine ⟨?_, rfl⟩; unfold sg3; simp_all)
      · refine zV_iload d_Ex_sign3_37 rfl ?_
        exact zS_iret d_Ex_sign3_39 rfl ⟨Nat.zero_le _, Nat.zero_le _⟩ (by refine ⟨?_, rfl⟩; unfold sg3; simp_all)
/-- bounds for two roots -/
def B5 (u v d w e : Int) : Prop := (-2000 ≤ u ∧ u ≤ 2000) ∧ (-20 ≤ v ∧ v ≤ 20) ∧ (0 ≤ d ∧ d ≤ 500) ∧ (-20 ≤ w ∧ w ≤ 20) ∧ (0 ≤ e ∧ e ≤ 500)
theorem B5_i {u v d w e : Int} (h : B5 u v d w e) : B3 u v d ∧ B3 0 w e ∧ B3 (u * u + v * v * d - w * w * e) (2 * u * v) d := by
  obtain ⟨h1, h2, h3, h4, h5⟩ := h
  have a1 := mb h1 h1
  have a2 := mb h2 h2
  have a3 := mb a2 (⟨by omega, h3.2⟩ : -500 ≤ d ∧ d ≤ 500)
  have a4 := mb h4 h4
  have a5 := mb a4 (⟨by omega, h5.2⟩ : -500 ≤ e ∧ e ≤ 500)
  have a6 := mb (⟨by omega, by omega⟩ : -4000 ≤ 2 * u ∧ 2 * u ≤ 4000) h2
  unfold B3
  omega
theorem s_Ex_sign5 (mem : zMem) (u v d w e : Int) (hb : B5 u v d w e) : zF m_Ex_sign5 [(1, u), (1, v), (1, d), (1, w), (1, e)] mem (fun r m => r = some (0, sg5 u v d w e) ∧ m = mem) := by
  obtain ⟨b1, b2, b3⟩ := B5_i hb
  refine zF_of (by decide) (Nat.le_of_ble_eq_true rfl) ?_
  show zS zT m_Ex_sign5 (0, 0) 0 [some (1, u), none, some (1, v), none, some (1, d), none, some (1, w), none, some (1, e), none, none, none] [] mem _
  refine zV_lload_n d_Ex_sign5_0 rfl ?_
  refine zV_lload_n d_Ex_sign5_1 rfl ?_
  refine zV_lload d_Ex_sign5_2 rfl ?_
  refine zS_invsE (mt' := m_Ex_sign3) (avs := [(1, u), (1, v), (1, d)]) (st := []) d_Ex_sign5_4 l_Ex_13 k_Ex_sign3 rfl rfl rfl rfl (s_Ex_sign3 mem u v d b1) ?_
  show zS zT m_Ex_sign5 (0, 0) 7 [some (1, u), none, some (1, v), none, some (1, d), none, some (1, w), none, some (1, e), none, none, none] [(0, (sg3 u v d))] mem _
  refine zV_istore (L' := [some (1, u), none, some (1, v), none, some (1, d), none, some (1, w), none, some (1, e), none, some (0, (sg3 u v d)), none]) d_Ex_sign5_7 (by decide) rfl ?_
  refine zV_lconst0 d_Ex_sign5_9 ?_
  refine zV_lload d_Ex_sign5_10 rfl ?_
  refine zV_lload d_Ex_sign5_12 rfl ?_
  refine zS_invsE (mt' := m_Ex_sign3) (avs := [(1, 0), (1, w), (1, e)]) (st := []) d_Ex_sign5_14 l_Ex_13 k_Ex_sign3 rfl rfl rfl rfl (s_Ex_sign3 mem 0 w e b2) ?_
  show zS zT m_Ex_sign5 (0, 0) 17 [some (1, u), none, some (1, v), none, some (1, d), none, some (1, w), none, some (1, e), none, some (0, (sg3 u v d)), none] [(0, (sg3 0 w e))] mem _
  refine zV_istore (L' := [some (1, u), none, some (1, v), none, some (1, d), none, some (1, w), none, some (1, e), none, some (0, (sg3 u v d)), some (0, (sg3 0 w e))]) d_Ex_sign5_17 (by decide) rfl ?_
  refine zV_iload d_Ex_sign5_19 rfl ?_
  refine zV_if_eq d_Ex_sign5_21 (sg3_i _ _ _) (fun c21 => ?_) (fun c21 => ?_)
  · refine zV_iload d_Ex_sign5_31 rfl ?_
    exact zS_iret d_Ex_sign5_33 rfl ⟨Nat.zero_le _, Nat.zero_le _⟩ (by refine ⟨?_, rfl⟩; unfold sg5; simp_all)
  · refine zV_iload d_Ex_sign5_24 rfl ?_
    refine zV_iload d_Ex_sign5_26 rfl ?_
    refine zV_icmp_ne d_Ex_sign5_28 (sg3_i _ _ _) (sg3_i _ _ _) (fun c28 => ?_) (fun c28 => ?_)
    · refine zV_iload d_Ex_sign5_34 rfl ?_
      refine zV_if_ne d_Ex_sign5_36 (sg3_i _ _ _) (fun c36 => ?_) (fun c36 => ?_)
      · refine zV_iload d_Ex_sign5_44 rfl ?_
        refine zV_lload_n d_Ex_sign5_46 rfl ?_
        refine zV_lload_n d_Ex_sign5_47 rfl ?_
        refine zV_lmul d_Ex_sign5_48 ?_
        refine zV_lload_n d_Ex_sign5_49 rfl ?_
        refine zV_lload_n d_Ex_sign5_50 rfl ?_
        refine zV_lmul d_Ex_sign5_51 ?_
        refine zV_lload d_Ex_sign5_52 rfl ?_
        refine zV_lmul d_Ex_sign5_54 ?_
        refine zV_ladd d_Ex_sign5_55 ?_
        refine zV_lload d_Ex_sign5_56 rfl ?_
        refine zV_lload d_Ex_sign5_58 rfl ?_
        refine zV_lmul d_Ex_sign5_60 ?_
        refine zV_lload d_Ex_sign5_61 rfl ?_
        refine zV_lmul d_Ex_sign5_63 ?_
        refine zV_lsub d_Ex_sign5_64 ?_
        refine zV_ldc2 (a := 2) d_Ex_sign5_65 n_Ex_19 rfl ?_
        refine zV_lload_n d_Ex_sign5_68 rfl ?_
        refine zV_lmul d_Ex_sign5_69 ?_
        refine zV_lload_n d_Ex_sign5_70 rfl ?_
        refine zV_lmul d_Ex_sign5_71 ?_
        refine zV_lload d_Ex_sign5_72 rfl ?_
        refine zS_invsE (mt' := m_Ex_sign3) (avs := [(1, (((u * u) + ((v * v) * d)) - ((w * w) * e))), (1, ((2 * u) * v)), (1, d)]) (st := [(0, (sg3 u v d))]) d_Ex_sign5_74 l_Ex_13 k_Ex_sign3 rfl rfl rfl rfl (s_Ex_sign3 mem (((u * u) + ((v * v) * d)) - ((w * w) * e)) ((2 * u) * v) d b3) ?_
        show zS zT m_Ex_sign5 (0, 0) 77 [some (1, u), none, some (1, v), none, some (1, d), none, some (1, w), none, some (1, e), none, some (0, (sg3 u v d)), some (0, (sg3 0 w e))] [(0, (sg3 (((u * u) + ((v * v) * d)) - ((w * w) * e)) ((2 * u) * v) d)), (0, (sg3 u v d))] mem _
        refine zV_imul d_Ex_sign5_77 ?_
        exact zS_iret d_Ex_sign5_78 rfl ⟨Nat.zero_le _, Nat.zero_le _⟩ (by refine ⟨?_, rfl⟩; unfold sg5; simp_all)
      · refine zV_iload d_Ex_sign5_39 rfl ?_
        refine zV_goto d_Ex_sign5_41 ?_
        exact zS_iret d_Ex_sign5_78 rfl ⟨Nat.zero_le _, Nat.zero_le _⟩ (by refine ⟨?_, rfl⟩; unfold sg5; simp_all)
    · refine zV_iload d_Ex_sign5_31 rfl ?_
      exact zS_iret d_Ex_sign5_33 rfl ⟨Nat.zero_le _, Nat.zero_le _⟩ (by refine ⟨?_, rfl⟩; unfold sg5; simp_all)
def rt : Nat → Int → Int → Int
  | 0, r, _ => r
  | k + 1, r, n => rt k (if (r + 2 ^ k) * (r + 2 ^ k) ≤ n then r + 2 ^ k else r) n
def rtD (n : Int) : Int := rt 16 0 n
theorem pow_lit (k : Nat) (h : k < 17) : (2 : Int) ^ k ≤ 65536 ∧ 1 ≤ (2 : Int) ^ k := by
  have h1 : (2 : Nat) ^ k ≤ 2 ^ 16 := Nat.pow_le_pow_right (by decide) (by omega)
  have h2 : 1 ≤ (2 : Nat) ^ k := Nat.one_le_two_pow
  have e : (2 : Int) ^ k = ((2 ^ k : Nat) : Int) := by simp
  rw [e]
  omega
theorem rt_sh : ∀ k : Nat, k < 17 → Int64.ofInt (if k = 0 then 0 else (2 : Int) ^ (k - 1)) >>> ((Int32.ofInt 1).toInt64 &&& 63) = Int64.ofInt (if k ≤ 1 then 0 else (2 : Int) ^ (k - 2)) := by decide +kernel
theorem rt_bd : ∀ (k : Nat) (r n : Int), k ≤ 16 → 0 ≤ r → r ≤ 65536 - 2 ^ k → 0 ≤ rt k r n ∧ rt k r n ≤ 65535
  | 0, r, n, _, h0, h1 => ⟨h0, by simp [rt] at *; omega⟩
  | k + 1, r, n, hk, h0, h1 => by
    have hp := pow_lit k (by omega)
    have e : (2 : Int) ^ (k + 1) = 2 * 2 ^ k := by rw [Int.pow_succ]; omega
    unfold rt
    split
    · exact rt_bd k _ n (by omega) (by omega) (by omega)
    · exact rt_bd k _ n (by omega) (by omega) (by omega)
theorem s_Ex_rootDown_l (mem : zMem) (n q : Int) (hn : I64 n) : ∀ (k : Nat) (r : Int), k ≤ 16 → 0 ≤ r → r ≤ 65536 - 2 ^ k → rt k r n = q → zS zT m_Ex_rootDown (0, 0) 7 [some (1, n), none, some (1, r), none, some (1, (if k = 0 then 0 else (2 : Int) ^ (k - 1))), none] [] mem (zQs (fun r m => r = some (1, q) ∧ m = mem)) := by
  intro k
  induction k with
  | zero =>
    intro r _ h0 h1 hq
    show zS zT m_Ex_rootDown (0, 0) 7 [some (1, n), none, some (1, r), none, some (1, 0), none] [] mem _
    refine zV_lload d_Ex_rootDown_7 rfl ?_
    refine zV_lconst0 d_Ex_rootDown_9 ?_
    refine zV_lcmp_le d_Ex_rootDown_10 d_Ex_rootDown_11 (by omega) (by omega) (fun c10 => ?_) (fun c10 => absurd c10 (by omega))
    refine zV_lload_n d_Ex_rootDown_42 rfl ?_
    exact zS_lret d_Ex_rootDown_43 rfl ⟨Nat.zero_le _, Nat.zero_le _⟩ ⟨by rw [← hq]; rfl, rfl⟩
  | succ k ih =>
    intro r hk h0 h1 hq
    have hp := pow_lit k (by omega)
    have e9 : (2 : Int) ^ (k + 1) = 2 * 2 ^ k := by rw [Int.pow_succ]; omega
    have hsh := rt_sh (k + 1) (by omega)
    have hmul := mb (⟨by omega, by omega⟩ : -65536 ≤ r + 2 ^ k ∧ r + 2 ^ k ≤ 65536) (⟨by omega, by omega⟩ : -65536 ≤ r + 2 ^ k ∧ r + 2 ^ k ≤ 65536)
    have hx : (if k + 1 = 0 then 0 else (2 : Int) ^ (k + 1 - 1)) = 2 ^ k := by simp
    rw [hx] at hsh ⊢
    have hy : (if k + 1 ≤ 1 then 0 else (2 : Int) ^ (k + 1 - 2)) = (if k = 0 then 0 else (2 : Int) ^ (k - 1)) := by split <;> split <;> first | rfl | omega
    rw [hy] at hsh
    refine zV_lload d_Ex_rootDown_7 rfl ?_
    refine zV_lconst0 d_Ex_rootDown_9 ?_
    refine zV_lcmp_le d_Ex_rootDown_10 d_Ex_rootDown_11 (by omega) (by omega) (fun c10 => absurd c10 (by omega)) (fun c10 => ?_)
    refine zV_lload_n d_Ex_rootDown_14 rfl ?_
    refine zV_lload d_Ex_rootDown_15 rfl ?_
    refine zV_ladd d_Ex_rootDown_17 ?_
    refine zV_lload_n d_Ex_rootDown_18 rfl ?_
    refine zV_lload d_Ex_rootDown_19 rfl ?_
    refine zV_ladd d_Ex_rootDown_21 ?_
    refine zV_lmul d_Ex_rootDown_22 ?_
    refine zV_lload_n d_Ex_rootDown_23 rfl ?_
    refine zV_lcmp_gt d_Ex_rootDown_24 d_Ex_rootDown_25 (by omega) (by omega) (fun c24 => ?_) (fun c24 => ?_)
    · refine zV_lload d_Ex_rootDown_33 rfl ?_
      refine zV_iconst d_Ex_rootDown_35 ?_
      refine zV_lshr (if k = 0 then 0 else (2 : Int) ^ (k - 1)) d_Ex_rootDown_36 hsh ?_
      refine zV_lstore (L' := [some (1, n), none, some (1, r), none, some (1, (if k = 0 then 0 else (2 : Int) ^ (k - 1))), none]) d_Ex_rootDown_37 (by decide) rfl ?_
      refine zV_goto d_Ex_rootDown_39 ?_
      exact ih _ (by omega) (by omega) (by omega) (by rw [← hq]; show _ = rt k (if (r + 2 ^ k) * (r + 2 ^ k) ≤ n then r + 2 ^ k else r) n; first | rw [if_pos (by omega)] | rw [if_neg (by omega)])
    · refine zV_lload_n d_Ex_rootDown_28 rfl ?_
      refine zV_lload d_Ex_rootDown_29 rfl ?_
      refine zV_ladd d_Ex_rootDown_31 ?_
      refine zV_lstore_n (L' := [some (1, n), none, some (1, (r + (2 ^ k))), none, some (1, (2 ^ k)), none]) d_Ex_rootDown_32 (by decide) rfl ?_
      refine zV_lload d_Ex_rootDown_33 rfl ?_
      refine zV_iconst d_Ex_rootDown_35 ?_
      refine zV_lshr (if k = 0 then 0 else (2 : Int) ^ (k - 1)) d_Ex_rootDown_36 hsh ?_
      refine zV_lstore (L' := [some (1, n), none, some (1, (r + (2 ^ k))), none, some (1, (if k = 0 then 0 else (2 : Int) ^ (k - 1))), none]) d_Ex_rootDown_37 (by decide) rfl ?_
      refine zV_goto d_Ex_rootDown_39 ?_
      exact ih _ (by omega) (by omega) (by omega) (by rw [← hq]; show _ = rt k (if (r + 2 ^ k) * (r + 2 ^ k) ≤ n then r + 2 ^ k else r) n; first | rw [if_pos (by omega)] | rw [if_neg (by omega)])
theorem s_Ex_rootDown (mem : zMem) (n : Int) (hn : I64 n) : zF m_Ex_rootDown [(1, n)] mem (fun r m => r = some (1, rtD n) ∧ m = mem) := by
  refine zF_of (by decide) (Nat.le_of_ble_eq_true rfl) ?_
  show zS zT m_Ex_rootDown (0, 0) 0 [some (1, n), none, none, none, none, none] [] mem _
  refine zV_lconst0 d_Ex_rootDown_0 ?_
  refine zV_lstore_n (L' := [some (1, n), none, some (1, 0), none, none, none]) d_Ex_rootDown_1 (by decide) rfl ?_
  refine zV_ldc2 (a := 32768) d_Ex_rootDown_2 n_Ex_21 rfl ?_
  refine zV_lstore (L' := [some (1, n), none, some (1, 0), none, some (1, 32768), none]) d_Ex_rootDown_5 (by decide) rfl ?_
  exact s_Ex_rootDown_l mem n _ hn 16 0 (by omega) (by omega) (by decide) rfl
