/-! the reference: numbers laid, compared, rounded down -/
theorem rt_sp : ∀ (k : Nat) (r n : Int), 0 ≤ r → r * r ≤ n → n < (r + 2 ^ k) * (r + 2 ^ k) → rt k r n * rt k r n ≤ n ∧ n < (rt k r n + 1) * (rt k r n + 1)
  | 0, r, n, h0, h1, h2 => ⟨h1, h2⟩
  | k + 1, r, n, h0, h1, h2 => by
    have e : (2 : Int) ^ (k + 1) = 2 * 2 ^ k := by rw [Int.pow_succ]; omega
    have hp : (0 : Int) ≤ 2 ^ k := Int.le_of_lt (Int.pow_pos (by decide))
    have e2 : rt (k + 1) r n = rt k (if (r + 2 ^ k) * (r + 2 ^ k) ≤ n then r + 2 ^ k else r) n := rfl
    rw [e2]
    by_cases h : (r + 2 ^ k) * (r + 2 ^ k) ≤ n
    · rw [if_pos h]
      exact rt_sp k _ n (by omega) h (by rw [show r + 2 ^ k + 2 ^ k = r + 2 ^ (k + 1) by omega]; exact h2)
    · rw [if_neg h]
      exact rt_sp k _ n h0 h1 (by omega)
theorem rtD_sp {n : Int} (h0 : 0 ≤ n) (h1 : n < 4294967296) : rtD n * rtD n ≤ n ∧ n < (rtD n + 1) * (rtD n + 1) := rt_sp 16 0 n (by decide) (by omega) (by rw [show ((0 : Int) + 2 ^ 16) * (0 + 2 ^ 16) = 4294967296 by decide]; exact h1)
theorem rtD_u {d r : Int} (hd : d < 4294967296) (hr : 0 ≤ r) (h : r * r = d) : rtD d = r := by
  have h0 : 0 ≤ d := by have := sqn r; omega
  obtain ⟨a, b⟩ := rtD_sp h0 hd
  have c := (rtD_r d).1
  have x := sq_le (a := rtD d) (b := r) hr (by omega)
  have y := sq_lt (a := r) (b := rtD d + 1) (by omega) (by omega)
  omega
def mP (mem : zMem) (k : Int) : Pt := (mem 86 k, mem 87 k, mem 88 k, mem 89 k)
def lyN (mem : zMem) (k : Int) (p : Pt) : zMem := zup (zup (zup (zup mem 86 k p.1) 87 k p.2.1) 88 k p.2.2.1) 89 k p.2.2.2
def nrm (p s d q : Int) : Pt := if rtD d * rtD d = d then (tn q * p + tn q * s * rtD d, 0, 0, tn q * q) else (tn q * p, tn q * s, d, tn q * q)
def lyE (m : zMem) (k d : Int) : zMem := if rtD d * rtD d = d then zup (zup (zup m 86 k (m 86 k + m 87 k * rtD d)) 87 k 0) 88 k 0 else m
theorem lyE_ly (mem : zMem) (k A B d D : Int) : lyE (lyN mem k (A, B, d, D)) k d = lyN mem k (if rtD d * rtD d = d then (A + B * rtD d, 0, 0, D) else (A, B, d, D)) := by
  unfold lyE
  by_cases h : rtD d * rtD d = d
  · rw [if_pos h, if_pos h]
    have e1 : lyN mem k (A, B, d, D) 86 k = A := by unfold lyN; rw [zup_c (by decide), zup_c (by decide), zup_c (by decide), zup_s]
    have e2 : lyN mem k (A, B, d, D) 87 k = B := by unfold lyN; rw [zup_c (by decide), zup_c (by decide), zup_s]
    rw [e1, e2]
    funext a j
    unfold lyN zup
    simp only
    (repeat' split) <;> first | rfl | omega
  · rw [if_neg h, if_neg h]
theorem lyN_s (mem : zMem) (k : Int) (p : Pt) : mP (lyN mem k p) k = p := by
  unfold mP lyN
  rw [zup_c (by decide), zup_c (by decide), zup_c (by decide), zup_s, zup_c (by decide), zup_c (by decide), zup_s, zup_c (by decide), zup_s, zup_s]
theorem lyN_n {mem : zMem} {k j : Int} {p : Pt} (h : j ≠ k) : mP (lyN mem k p) j = mP mem j := by
  unfold mP lyN
  rw [zup_k h, zup_k h, zup_k h, zup_k h, zup_k h, zup_k h, zup_k h, zup_k h, zup_k h, zup_k h, zup_k h, zup_k h, zup_k h, zup_k h, zup_k h, zup_k h]
theorem lyN_o {mem : zMem} {k a : Int} {p : Pt} (h : a < 86 ∨ 89 < a) : lyN mem k p a = mem a := by
  unfold lyN
  rw [zup_a (by omega), zup_a (by omega), zup_a (by omega), zup_a (by omega)]
theorem s_Mo_layNumber_l (m : zMem) (k p s d q tv : Int) (hk : 0 ≤ k ∧ k < 64) (hd : 0 ≤ d ∧ d ≤ 500) : ∀ (r : Int), (0 ≤ r ∧ r ≤ 23) → (∀ x, 0 ≤ x → x < r → x * x < d) → zS zT m_Mo_layNumber (0, 0) 83 [some (2, 80), some (0, k), some (1, p), none, some (1, s), none, some (1, d), none, some (1, q), none, some (0, tv), some (1, r), none] [] m (zQs (fun r m9 => r = none ∧ m9 = lyE m k d)) := by
  intro r
  obtain ⟨k9, hk9⟩ : ∃ kq : Nat, (23 - r).toNat = kq := ⟨_, rfl⟩
  induction k9 using Nat.strongRecOn generalizing r with
  | _ k9 ih =>
    intro i0 i1
    have b1 := mb (⟨by omega, i0.2⟩ : -23 ≤ r ∧ r ≤ 23) (⟨by omega, i0.2⟩ : -23 ≤ r ∧ r ≤ 23)
    refine zV_lload d_Mo_layNumber_83 rfl ?_
    refine zV_lload d_Mo_layNumber_85 rfl ?_
    refine zV_lmul d_Mo_layNumber_87 ?_
    refine zV_lload d_Mo_layNumber_88 rfl ?_
    refine zV_lcmp_ge d_Mo_layNumber_90 d_Mo_layNumber_91 (by omega) (by omega) (fun c90 => ?_) (fun c90 => ?_)
    · refine zV_lload d_Mo_layNumber_103 rfl ?_
      refine zV_lload d_Mo_layNumber_105 rfl ?_
      refine zV_lmul d_Mo_layNumber_107 ?_
      refine zV_lload d_Mo_layNumber_108 rfl ?_
      refine zV_lcmp_ne d_Mo_layNumber_110 d_Mo_layNumber_111 (by omega) (by omega) (fun c110 => ?_) (fun c110 => ?_)
      · exact zS_vret d_Mo_layNumber_146 rfl ⟨Nat.zero_le _, Nat.zero_le _⟩ (by refine ⟨rfl, ?_⟩; unfold lyE; rw [if_neg (fun z => ?_)]; have c := (rtD_r d).1; have y := sq_lt (a := rtD d) (b := r) i0.1 (by omega); have := i1 (rtD d) c y; omega)
      · refine zV_aload_n d_Mo_layNumber_114 rfl ?_
        refine zS_getr (r := 86) d_Mo_layNumber_115 f_Mo_25 rfl rfl rfl ?_
        refine zV_iload_n d_Mo_layNumber_118 rfl ?_
        refine zV_dup2 d_Mo_layNumber_119 (show (0 : Nat) ≠ 1 by decide) (show (2 : Nat) ≠ 1 by decide) ?_
        refine zS_lald d_Mo_layNumber_120 rfl rfl ⟨by omega, by omega⟩ ?_
        refine zV_aload_n d_Mo_layNumber_121 rfl ?_
        refine zS_getr (r := 87) d_Mo_layNumber_122 f_Mo_29 rfl rfl rfl ?_
        refine zV_iload_n d_Mo_layNumber_125 rfl ?_
        refine zS_lald d_Mo_layNumber_126 rfl rfl ⟨by omega, by omega⟩ ?_
        refine zV_lload d_Mo_layNumber_127 rfl ?_
        refine zV_lmul d_Mo_layNumber_129 ?_
        refine zV_ladd d_Mo_layNumber_130 ?_
        refine zS_last d_Mo_layNumber_131 rfl rfl ⟨by omega, by omega⟩ ?_
        refine zV_aload_n d_Mo_layNumber_132 rfl ?_
        refine zS_getr (r := 87) d_Mo_layNumber_133 f_Mo_29 rfl rfl rfl ?_
        refine zV_iload_n d_Mo_layNumber_136 rfl ?_
        refine zV_lconst0 d_Mo_layNumber_137 ?_
        refine zS_last d_Mo_layNumber_138 rfl rfl ⟨by omega, by omega⟩ ?_
        refine zV_aload_n d_Mo_layNumber_139 rfl ?_
        refine zS_getr (r := 88) d_Mo_layNumber_140 f_Mo_32 rfl rfl rfl ?_
        refine zV_iload_n d_Mo_layNumber_143 rfl ?_
        refine zV_lconst0 d_Mo_layNumber_144 ?_
        refine zS_last d_Mo_layNumber_145 rfl rfl ⟨by omega, by omega⟩ ?_
        exact zS_vret d_Mo_layNumber_146 rfl ⟨Nat.zero_le _, Nat.zero_le _⟩ (by refine ⟨rfl, ?_⟩; unfold lyE; have er := rtD_u (d := d) (r := r) (by omega) i0.1 (by omega); rw [er, if_pos (by omega)])
    · refine zV_lload d_Mo_layNumber_94 rfl ?_
      refine zV_lconst1 d_Mo_layNumber_96 ?_
      refine zV_ladd d_Mo_layNumber_97 ?_
      refine zV_lstore (L' := [some (2, 80), some (0, k), some (1, p), none, some (1, s), none, some (1, d), none, some (1, q), none, some (0, tv), some (1, (r + 1)), none]) d_Mo_layNumber_98 (by decide) rfl ?_
      refine zV_goto d_Mo_layNumber_100 ?_
      have r1 := sq_lt (a := r) (b := 23) (by decide) (by omega)
      refine ih _ (by omega) (r + 1) rfl (by omega) (fun x x1 x2 => ?_)
      by_cases e : x = r
      · rw [e]; assumption
      · exact i1 x x1 (by omega)
theorem s_Mo_layNumber (mem : zMem) (k p s d q : Int) (hk : 0 ≤ k ∧ k < 64) (hd : 0 ≤ d ∧ d ≤ 500) (hq : I64 q) : zF m_Mo_layNumber [(2, 80), (0, k), (1, p), (1, s), (1, d), (1, q)] mem (fun r m => r = none ∧ m = lyN mem k (nrm p s d q)) := by
  refine zF_of (by decide) (Nat.le_of_ble_eq_true rfl) ?_
  show zS zT m_Mo_layNumber (0, 0) 0 [some (2, 80), some (0, k), some (1, p), none, some (1, s), none, some (1, d), none, some (1, q), none, none, none, none] [] mem _
  refine zV_lload d_Mo_layNumber_0 rfl ?_
  refine zV_lconst0 d_Mo_layNumber_2 ?_
  refine zV_lcmp_ge d_Mo_layNumber_3 d_Mo_layNumber_4 (by omega) (by omega) (fun c3 => ?_) (fun c3 => ?_)
  · refine zV_iconst d_Mo_layNumber_11 ?_
    refine zV_istore (L' := [some (2, 80), some (0, k), some (1, p), none, some (1, s), none, some (1, d), none, some (1, q), none, some (0, 0), none, none]) d_Mo_layNumber_12 (by decide) rfl ?_
    refine zV_aload_n d_Mo_layNumber_14 rfl ?_
    refine zS_getr (r := 86) d_Mo_layNumber_15 f_Mo_25 rfl rfl rfl ?_
    refine zV_iload_n d_Mo_layNumber_18 rfl ?_
    refine zV_iload d_Mo_layNumber_19 rfl ?_
    refine zV_if_eq d_Mo_layNumber_21 (by omega) (fun c21 => ?_) (fun c21 => absurd c21 (by omega))
    refine zV_lload_n d_Mo_layNumber_30 rfl ?_
    refine zS_last d_Mo_layNumber_31 rfl rfl ⟨by omega, by omega⟩ ?_
    refine zV_aload_n d_Mo_layNumber_32 rfl ?_
    refine zS_getr (r := 87) d_Mo_layNumber_33 f_Mo_29 rfl rfl rfl ?_
    refine zV_iload_n d_Mo_layNumber_36 rfl ?_
    refine zV_iload d_Mo_layNumber_37 rfl ?_
    refine zV_if_eq d_Mo_layNumber_39 (by omega) (fun c39 => ?_) (fun c39 => absurd c39 (by omega))
    refine zV_lload d_Mo_layNumber_49 rfl ?_
    refine zS_last d_Mo_layNumber_51 rfl rfl ⟨by omega, by omega⟩ ?_
    refine zV_aload_n d_Mo_layNumber_52 rfl ?_
    refine zS_getr (r := 88) d_Mo_layNumber_53 f_Mo_32 rfl rfl rfl ?_
    refine zV_iload_n d_Mo_layNumber_56 rfl ?_
    refine zV_lload d_Mo_layNumber_57 rfl ?_
    refine zS_last d_Mo_layNumber_59 rfl rfl ⟨by omega, by omega⟩ ?_
    refine zV_aload_n d_Mo_layNumber_60 rfl ?_
    refine zS_getr (r := 89) d_Mo_layNumber_61 f_Mo_35 rfl rfl rfl ?_
    refine zV_iload_n d_Mo_layNumber_64 rfl ?_
    refine zV_iload d_Mo_layNumber_65 rfl ?_
    refine zV_if_eq d_Mo_layNumber_67 (by omega) (fun c67 => ?_) (fun c67 => absurd c67 (by omega))
    refine zV_lload d_Mo_layNumber_77 rfl ?_
    refine zS_last d_Mo_layNumber_79 rfl rfl ⟨by omega, by omega⟩ ?_
    refine zV_lconst0 d_Mo_layNumber_80 ?_
    refine zV_lstore (L' := [some (2, 80), some (0, k), some (1, p), none, some (1, s), none, some (1, d), none, some (1, q), none, some (0, 0), some (1, 0), none]) d_Mo_layNumber_81 (by decide) rfl ?_
    refine zS_mono ?_ (s_Mo_layNumber_l _ k p s d q _ hk hd 0 (by omega) (fun x x1 x2 => by omega))
    rintro r m9 ⟨rfl, rfl⟩
    refine ⟨rfl, ?_⟩
    unfold nrm
    rw [← lyE_ly]
    unfold lyN tn
    first | rw [if_pos (show q < 0 by omega), show -1 * p = 0 - p by omega, show -1 * s = 0 - s by omega, show -1 * q = 0 - q by omega] | rw [if_neg (show ¬ q < 0 by omega), Int.one_mul, Int.one_mul, Int.one_mul]
  · refine zV_iconst d_Mo_layNumber_7 ?_
    refine zV_goto d_Mo_layNumber_8 ?_
    refine zV_istore (L' := [some (2, 80), some (0, k), some (1, p), none, some (1, s), none, some (1, d), none, some (1, q), none, some (0, 1), none, none]) d_Mo_layNumber_12 (by decide) rfl ?_
    refine zV_aload_n d_Mo_layNumber_14 rfl ?_
    refine zS_getr (r := 86) d_Mo_layNumber_15 f_Mo_25 rfl rfl rfl ?_
    refine zV_iload_n d_Mo_layNumber_18 rfl ?_
    refine zV_iload d_Mo_layNumber_19 rfl ?_
    refine zV_if_eq d_Mo_layNumber_21 (by omega) (fun c21 => absurd c21 (by omega)) (fun c21 => ?_)
    refine zV_lconst0 d_Mo_layNumber_24 ?_
    refine zV_lload_n d_Mo_layNumber_25 rfl ?_
    refine zV_lsub d_Mo_layNumber_26 ?_
    refine zV_goto d_Mo_layNumber_27 ?_
    refine zS_last d_Mo_layNumber_31 rfl rfl ⟨by omega, by omega⟩ ?_
    refine zV_aload_n d_Mo_layNumber_32 rfl ?_
    refine zS_getr (r := 87) d_Mo_layNumber_33 f_Mo_29 rfl rfl rfl ?_
    refine zV_iload_n d_Mo_layNumber_36 rfl ?_
    refine zV_iload d_Mo_layNumber_37 rfl ?_
    refine zV_if_eq d_Mo_layNumber_39 (by omega) (fun c39 => absurd c39 (by omega)) (fun c39 => ?_)
    refine zV_lconst0 d_Mo_layNumber_42 ?_
    refine zV_lload d_Mo_layNumber_43 rfl ?_
    refine zV_lsub d_Mo_layNumber_45 ?_
    refine zV_goto d_Mo_layNumber_46 ?_
    refine zS_last d_Mo_layNumber_51 rfl rfl ⟨by omega, by omega⟩ ?_
    refine zV_aload_n d_Mo_layNumber_52 rfl ?_
    refine zS_getr (r := 88) d_Mo_layNumber_53 f_Mo_32 rfl rfl rfl ?_
    refine zV_iload_n d_Mo_layNumber_56 rfl ?_
    refine zV_lload d_Mo_layNumber_57 rfl ?_
    refine zS_last d_Mo_layNumber_59 rfl rfl ⟨by omega, by omega⟩ ?_
    refine zV_aload_n d_Mo_layNumber_60 rfl ?_
    refine zS_getr (r := 89) d_Mo_layNumber_61 f_Mo_35 rfl rfl rfl ?_
    refine zV_iload_n d_Mo_layNumber_64 rfl ?_
    refine zV_iload d_Mo_layNumber_65 rfl ?_
    refine zV_if_eq d_Mo_layNumber_67 (by omega) (fun c67 => absurd c67 (by omega)) (fun c67 => ?_)
    refine zV_lconst0 d_Mo_layNumber_70 ?_
    refine zV_lload d_Mo_layNumber_71 rfl ?_
    refine zV_lsub d_Mo_layNumber_73 ?_
    refine zV_goto d_Mo_layNumber_74 ?_
    refine zS_last d_Mo_layNumber_79 rfl rfl ⟨by omega, by omega⟩ ?_
    refine zV_lconst0 d_Mo_layNumber_80 ?_
    refine zV_lstore (L' := [some (2, 80), some (0, k), some (1, p), none, some (1, s), none, some (1, d), none, some (1, q), none, some (0, 1), some (1, 0), none]) d_Mo_layNumber_81 (by decide) rfl ?_
    refine zS_mono ?_ (s_Mo_layNumber_l _ k p s d q _ hk hd 0 (by omega) (fun x x1 x2 => by omega))
    rintro r m9 ⟨rfl, rfl⟩
    refine ⟨rfl, ?_⟩
    unfold nrm
    rw [← lyE_ly]
    unfold lyN tn
    first | rw [if_pos (show q < 0 by omega), show -1 * p = 0 - p by omega, show -1 * s = 0 - s by omega, show -1 * q = 0 - q by omega] | rw [if_neg (show ¬ q < 0 by omega), Int.one_mul, Int.one_mul, Int.one_mul]
theorem s_Mo_compare (mem : zMem) (x y : Int) (hx : 0 ≤ x ∧ x < 64) (hy : 0 ≤ y ∧ y < 64) (h1 : okP (mP mem x)) (h2 : okP (mP mem y)) : zF m_Mo_compare [(2, 80), (0, x), (0, y)] mem (fun r m => r = some (0, ordP (mP mem x) (mP mem y)) ∧ m = mem) := by
  refine zF_of (by decide) (Nat.le_of_ble_eq_true rfl) ?_
  show zS zT m_Mo_compare (0, 0) 0 [some (2, 80), some (0, x), some (0, y), none, none] [] mem _
  refine zV_aload_n d_Mo_compare_0 rfl ?_
  refine zS_getr (r := 89) d_Mo_compare_1 f_Mo_35 rfl rfl rfl ?_
  refine zV_iload_n d_Mo_compare_4 rfl ?_
  refine zS_lald d_Mo_compare_5 rfl rfl ⟨by omega, by omega⟩ ?_
  refine zV_aload_n d_Mo_compare_6 rfl ?_
  refine zS_getr (r := 86) d_Mo_compare_7 f_Mo_25 rfl rfl rfl ?_
  refine zV_iload_n d_Mo_compare_10 rfl ?_
  refine zS_lald d_Mo_compare_11 rfl rfl ⟨by omega, by omega⟩ ?_
  refine zV_lmul d_Mo_compare_12 ?_
  refine zV_aload_n d_Mo_compare_13 rfl ?_
  refine zS_getr (r := 89) d_Mo_compare_14 f_Mo_35 rfl rfl rfl ?_
  refine zV_iload_n d_Mo_compare_17 rfl ?_
  refine zS_lald d_Mo_compare_18 rfl rfl ⟨by omega, by omega⟩ ?_
  refine zV_aload_n d_Mo_compare_19 rfl ?_
  refine zS_getr (r := 86) d_Mo_compare_20 f_Mo_25 rfl rfl rfl ?_
  refine zV_iload_n d_Mo_compare_23 rfl ?_
  refine zS_lald d_Mo_compare_24 rfl rfl ⟨by omega, by omega⟩ ?_
  refine zV_lmul d_Mo_compare_25 ?_
  refine zV_lsub d_Mo_compare_26 ?_
  refine zV_lstore_n (L' := [some (2, 80), some (0, x), some (0, y), some (1, (((mem 89 y) * (mem 86 x)) - ((mem 89 x) * (mem 86 y)))), none]) d_Mo_compare_27 (by decide) rfl ?_
  refine zV_lload_n d_Mo_compare_28 rfl ?_
  refine zV_aload_n d_Mo_compare_29 rfl ?_
  refine zS_getr (r := 89) d_Mo_compare_30 f_Mo_35 rfl rfl rfl ?_
  refine zV_iload_n d_Mo_compare_33 rfl ?_
  refine zS_lald d_Mo_compare_34 rfl rfl ⟨by omega, by omega⟩ ?_
  refine zV_aload_n d_Mo_compare_35 rfl ?_
  refine zS_getr (r := 87) d_Mo_compare_36 f_Mo_29 rfl rfl rfl ?_
  refine zV_iload_n d_Mo_compare_39 rfl ?_
  refine zS_lald d_Mo_compare_40 rfl rfl ⟨by omega, by omega⟩ ?_
  refine zV_lmul d_Mo_compare_41 ?_
  refine zV_aload_n d_Mo_compare_42 rfl ?_
  refine zS_getr (r := 88) d_Mo_compare_43 f_Mo_32 rfl rfl rfl ?_
  refine zV_iload_n d_Mo_compare_46 rfl ?_
  refine zS_lald d_Mo_compare_47 rfl rfl ⟨by omega, by omega⟩ ?_
  refine zV_lconst0 d_Mo_compare_48 ?_
  refine zV_aload_n d_Mo_compare_49 rfl ?_
  refine zS_getr (r := 89) d_Mo_compare_50 f_Mo_35 rfl rfl rfl ?_
  refine zV_iload_n d_Mo_compare_53 rfl ?_
  refine zS_lald d_Mo_compare_54 rfl rfl ⟨by omega, by omega⟩ ?_
  refine zV_aload_n d_Mo_compare_55 rfl ?_
  refine zS_getr (r := 87) d_Mo_compare_56 f_Mo_29 rfl rfl rfl ?_
  refine zV_iload_n d_Mo_compare_59 rfl ?_
  refine zS_lald d_Mo_compare_60 rfl rfl ⟨by omega, by omega⟩ ?_
  refine zV_lmul d_Mo_compare_61 ?_
  refine zV_lsub d_Mo_compare_62 ?_
  refine zV_aload_n d_Mo_compare_63 rfl ?_
  refine zS_getr (r := 88) d_Mo_compare_64 f_Mo_32 rfl rfl rfl ?_
  refine zV_iload_n d_Mo_compare_67 rfl ?_
  refine zS_lald d_Mo_compare_68 rfl rfl ⟨by omega, by omega⟩ ?_
  refine zS_invsE (mt' := m_Mo_signRoots) (avs := [(1, (((mem 89 y) * (mem 86 x)) - ((mem 89 x) * (mem 86 y)))), (1, ((mem 89 y) * (mem 87 x))), (1, (mem 88 x)), (1, (0 - ((mem 89 x) * (mem 87 y)))), (1, (mem 88 y))]) (st := []) d_Mo_compare_69 l_Mo_142 k_Mo_signRoots rfl rfl rfl rfl (s_Mo_signRoots mem (((mem 89 y) * (mem 86 x)) - ((mem 89 x) * (mem 86 y))) ((mem 89 y) * (mem 87 x)) (mem 88 x) (0 - ((mem 89 x) * (mem 87 y))) (mem 88 y) (by have A1 := h1; have A2 := h2; obtain ⟨a1, a2, a3, a4⟩ := A1; obtain ⟨b1, b2, b3, b4⟩ := A2; simp only [mP] at a1 a2 a3 a4 b1 b2 b3 b4; have q1 := mb (⟨by omega, b4.2⟩ : -18 ≤ mem 89 y ∧ mem 89 y ≤ 18) a1; have q2 := mb (⟨by omega, a4.2⟩ : -18 ≤ mem 89 x ∧ mem 89 x ≤ 18) b1; have q3 := mb (⟨by omega, b4.2⟩ : -18 ≤ mem 89 y ∧ mem 89 y ≤ 18) (⟨by omega, by omega⟩ : -1 ≤ mem 87 x ∧ mem 87 x ≤ 1); have q4 := mb (⟨by omega, a4.2⟩ : -18 ≤ mem 89 x ∧ mem 89 x ≤ 18) (⟨by omega, by omega⟩ : -1 ≤ mem 87 y ∧ mem 87 y ≤ 1); unfold B5; omega)) ?_
  show zS zT m_Mo_compare (0, 0) 72 [some (2, 80), some (0, x), some (0, y), some (1, (((mem 89 y) * (mem 86 x)) - ((mem 89 x) * (mem 86 y)))), none] [(0, (sRs (((mem 89 y) * (mem 86 x)) - ((mem 89 x) * (mem 86 y))) ((mem 89 y) * (mem 87 x)) (mem 88 x) (0 - ((mem 89 x) * (mem 87 y))) (mem 88 y)))] mem _
  exact zS_iret d_Mo_compare_72 rfl ⟨Nat.zero_le _, Nat.zero_le _⟩ (by refine ⟨?_, rfl⟩; rw [← ordM_eq (pk_ok h1) (pk_ok h2)]; rfl)
/-- what keeps a comparison with a fraction from wrapping -/
def cB (P : Pt) (p q : Int) : Prop := I64 (q * P.1 - p * P.2.2.2) ∧ I64 (q * P.2.1) ∧ I64 P.2.2.1 ∧ (P.2.2.1 ≠ 0 → I64 ((q * P.1 - p * P.2.2.2) * (q * P.1 - p * P.2.2.2) - q * P.2.1 * (q * P.2.1) * P.2.2.1))
theorem cB_ok {P : Pt} {p q : Int} (hP : okQ P) (hq : 0 < q ∧ q ≤ 4194304) (hp : -419430401 ≤ p ∧ p ≤ 419430401) : cB P p q := by
  obtain ⟨⟨p1, p2, p3, p4⟩, hc⟩ := hP
  have q1 := mb (⟨by omega, hq.2⟩ : -4194304 ≤ q ∧ q ≤ 4194304) p1
  have q2 := mb hp (⟨by omega, p4.2⟩ : -18 ≤ P.2.2.2 ∧ P.2.2.2 ≤ 18)
  have q3 := mb (⟨by omega, hq.2⟩ : -4194304 ≤ q ∧ q ≤ 4194304) (⟨by omega, by omega⟩ : -1 ≤ P.2.1 ∧ P.2.1 ≤ 1)
  refine ⟨by omega, by omega, by omega, fun h0 => ?_⟩
  rcases hc with hc | hc
  · exact absurd hc.2 h0
  · have r1 := mb (⟨by omega, hq.2⟩ : -4194304 ≤ q ∧ q ≤ 4194304) hc.2.1
    have r2 := mb hp (⟨by omega, by omega⟩ : -4 ≤ P.2.2.2 ∧ P.2.2.2 ≤ 4)
    have r3 := mb (⟨by omega, by omega⟩ : -1753219076 ≤ q * P.1 - p * P.2.2.2 ∧ q * P.1 - p * P.2.2.2 ≤ 1753219076) (⟨by omega, by omega⟩ : -1753219076 ≤ q * P.1 - p * P.2.2.2 ∧ q * P.1 - p * P.2.2.2 ≤ 1753219076)
    have r4 := mb (mb q3 q3) (⟨by omega, by omega⟩ : -500 ≤ P.2.2.1 ∧ P.2.2.1 ≤ 500)
    omega
theorem cB_0 {P : Pt} {p q : Int} (h0 : P.2.1 = 0 ∧ P.2.2.1 = 0) (h : I64 (q * P.1 - p * P.2.2.2)) : cB P p q := by
  refine ⟨h, by rw [h0.1, Int.mul_zero]; exact ⟨by decide, by decide⟩, by rw [h0.2]; exact ⟨by decide, by decide⟩, fun z => absurd h0.2 z⟩
theorem s_Mo_compareTo (mem : zMem) (x p q : Int) (hx : 0 ≤ x ∧ x < 64) (hB : cB (mP mem x) p q) : zF m_Mo_compareTo [(2, 80), (0, x), (1, p), (1, q)] mem (fun r m => r = some (0, cmF (mP mem x) p q) ∧ m = mem) := by
  refine zF_of (by decide) (Nat.le_of_ble_eq_true rfl) ?_
  show zS zT m_Mo_compareTo (0, 0) 0 [some (2, 80), some (0, x), some (1, p), none, some (1, q), none] [] mem _
  refine zV_lload d_Mo_compareTo_0 rfl ?_
  refine zV_aload_n d_Mo_compareTo_2 rfl ?_
  refine zS_getr (r := 86) d_Mo_compareTo_3 f_Mo_25 rfl rfl rfl ?_
  refine zV_iload_n d_Mo_compareTo_6 rfl ?_
  refine zS_lald d_Mo_compareTo_7 rfl rfl ⟨by omega, by omega⟩ ?_
  refine zV_lmul d_Mo_compareTo_8 ?_
  refine zV_lload_n d_Mo_compareTo_9 rfl ?_
  refine zV_aload_n d_Mo_compareTo_10 rfl ?_
  refine zS_getr (r := 89) d_Mo_compareTo_11 f_Mo_35 rfl rfl rfl ?_
  refine zV_iload_n d_Mo_compareTo_14 rfl ?_
  refine zS_lald d_Mo_compareTo_15 rfl rfl ⟨by omega, by omega⟩ ?_
  refine zV_lmul d_Mo_compareTo_16 ?_
  refine zV_lsub d_Mo_compareTo_17 ?_
  refine zV_lload d_Mo_compareTo_18 rfl ?_
  refine zV_aload_n d_Mo_compareTo_20 rfl ?_
  refine zS_getr (r := 87) d_Mo_compareTo_21 f_Mo_29 rfl rfl rfl ?_
  refine zV_iload_n d_Mo_compareTo_24 rfl ?_
  refine zS_lald d_Mo_compareTo_25 rfl rfl ⟨by omega, by omega⟩ ?_
  refine zV_lmul d_Mo_compareTo_26 ?_
  refine zV_aload_n d_Mo_compareTo_27 rfl ?_
  refine zS_getr (r := 88) d_Mo_compareTo_28 f_Mo_32 rfl rfl rfl ?_
  refine zV_iload_n d_Mo_compareTo_31 rfl ?_
  refine zS_lald d_Mo_compareTo_32 rfl rfl ⟨by omega, by omega⟩ ?_
  refine zS_invsE (mt' := m_Mo_signRoot) (avs := [(1, ((q * (mem 86 x)) - (p * (mem 89 x)))), (1, (q * (mem 87 x))), (1, (mem 88 x))]) (st := []) d_Mo_compareTo_33 l_Mo_136 k_Mo_signRoot rfl rfl rfl rfl (s_Mo_signRoot mem ((q * (mem 86 x)) - (p * (mem 89 x))) (q * (mem 87 x)) (mem 88 x) hB.1 hB.2.1 hB.2.2.1 hB.2.2.2) ?_
  show zS zT m_Mo_compareTo (0, 0) 36 [some (2, 80), some (0, x), some (1, p), none, some (1, q), none] [(0, (sg3 ((q * (mem 86 x)) - (p * (mem 89 x))) (q * (mem 87 x)) (mem 88 x)))] mem _
  exact zS_iret d_Mo_compareTo_36 rfl ⟨Nat.zero_le _, Nat.zero_le _⟩ ⟨rfl, rfl⟩
theorem cm_far {P : Pt} {t : Int} (hP : okQ P) (ht : 0 < t) : cmF P (-100 * t) t = 1 ∧ cmF P (100 * t) t = -1 := by
  obtain ⟨⟨p1, p2, p3, p4⟩, hc⟩ := hP
  have hr : ∀ N, 0 < N → -(23 * N) ≤ P.2.1 * rsq P.2.2.1 N ∧ P.2.1 * rsq P.2.2.1 N ≤ 23 * N := fun N hN => by
    obtain ⟨a, b, _⟩ := rsq_sp p3.1 (show 0 ≤ N by omega)
    have x := mmul p3.2 (sqn N)
    have e1 : N * N * P.2.2.1 = P.2.2.1 * N * N := by grind
    have e2 : 23 * N * (23 * N) = N * N * 529 := by grind
    have nn := Int.mul_pos hN hN
    have y := sq_le (a := rsq P.2.2.1 N) (b := 23 * N) (by omega) (by omega)
    rcases p2 with h | h | h <;> rw [h] <;> omega
  have key : ∀ u v : Int, sPos (fun N => u * N + v * rsq P.2.2.1 N) → sg3 u v P.2.2.1 = 1 := fun u v h => sSg_uq (sg3_ok p3.1 u v) (Or.inl ⟨rfl, h⟩)
  have key2 : ∀ u v : Int, sPos (fun N => -(u * N + v * rsq P.2.2.1 N)) → sg3 u v P.2.2.1 = -1 := fun u v h => sSg_uq (sg3_ok p3.1 u v) (Or.inr (Or.inr ⟨rfl, h⟩))
  unfold cmF
  constructor
  · refine key _ _ (sPos_eq (f := fun N => t * (P.1 * N + 100 * P.2.2.2 * N + P.2.1 * rsq P.2.2.1 N)) (fun N _ => ?_) (sPos_sc ht (sPos_w (fun N hN => ?_))))
    · show t * (P.1 * N + 100 * P.2.2.2 * N + P.2.1 * rsq P.2.2.1 N) = (t * P.1 - -100 * t * P.2.2.2) * N + t * P.2.1 * rsq P.2.2.1 N
      generalize rsq P.2.2.1 N = r
      grind
    · have a := hr N hN
      have b := mmul (show 60 ≤ P.1 + 100 * P.2.2.2 by omega) (show 0 ≤ N by omega)
      have e : N * (P.1 + 100 * P.2.2.2) = P.1 * N + 100 * P.2.2.2 * N := by grind
      omega
  · refine key2 _ _ (sPos_eq (f := fun N => t * (-(P.1 * N) + 100 * P.2.2.2 * N - P.2.1 * rsq P.2.2.1 N)) (fun N _ => ?_) (sPos_sc ht (sPos_w (fun N hN => ?_))))
    · show t * (-(P.1 * N) + 100 * P.2.2.2 * N - P.2.1 * rsq P.2.2.1 N) = -((t * P.1 - 100 * t * P.2.2.2) * N + t * P.2.1 * rsq P.2.2.1 N)
      generalize rsq P.2.2.1 N = r
      grind
    · have a := hr N hN
      have b := mmul (show 60 ≤ -P.1 + 100 * P.2.2.2 by omega) (show 0 ≤ N by omega)
      have e : N * (-P.1 + 100 * P.2.2.2) = -(P.1 * N) + 100 * P.2.2.2 * N := by grind
      omega
def flR (P : Pt) (t v : Int) : Prop := 0 ≤ cmF P v t ∧ cmF P (v + 1) t < 0 ∧ (-100 * t ≤ v ∧ v < 100 * t)
theorem s_Mo_floorOf_l (mem : zMem) (x t : Int) (hx : 0 ≤ x ∧ x < 64) (ht : 0 < t ∧ t ≤ 4194304) (hP : okQ (mP mem x)) : ∀ (lo : Int) (hi : Int), ((-100 * t ≤ lo ∧ lo < hi) ∧ hi ≤ 100 * t) → (0 ≤ cmF (mP mem x) lo t) → (cmF (mP mem x) hi t < 0) → zS zT m_Mo_floorOf (0, 0) 14 [some (2, 80), some (0, x), some (1, t), none, some (1, lo), none, some (1, hi), none, none, none] [] mem (zQs (fun r m => ∃ v, r = some (1, v) ∧ m = mem ∧ flR (mP mem x) t v)) := by
  intro lo hi
  obtain ⟨k9, hk9⟩ : ∃ kq : Nat, (hi - lo).toNat = kq := ⟨_, rfl⟩
  induction k9 using Nat.strongRecOn generalizing lo hi with
  | _ k9 ih =>
    intro i0 i1 i2
    refine zV_lload d_Mo_floorOf_14 rfl ?_
    refine zV_lload d_Mo_floorOf_16 rfl ?_
    refine zV_lsub d_Mo_floorOf_18 ?_
    refine zV_lconst1 d_Mo_floorOf_19 ?_
    refine zV_lcmp_le d_Mo_floorOf_20 d_Mo_floorOf_21 (by omega) (by omega) (fun c20 => ?_) (fun c20 => ?_)
    · refine zV_lload d_Mo_floorOf_63 rfl ?_
      exact zS_lret d_Mo_floorOf_65 rfl ⟨Nat.zero_le _, Nat.zero_le _⟩ ⟨lo, rfl, rfl, i1, by rw [show lo + 1 = hi by omega]; exact i2, by omega⟩
    · refine zV_lload d_Mo_floorOf_24 rfl ?_
      refine zV_lload d_Mo_floorOf_26 rfl ?_
      refine zV_lload d_Mo_floorOf_28 rfl ?_
      refine zV_lsub d_Mo_floorOf_30 ?_
      refine zV_ldc2 (a := 2) d_Mo_floorOf_31 n_Mo_150 rfl ?_
      refine zV_ldiv_p d_Mo_floorOf_34 (by omega) (by omega) ?_
      refine zV_ladd d_Mo_floorOf_35 ?_
      refine zV_lstore (L' := [some (2, 80), some (0, x), some (1, t), none, some (1, lo), none, some (1, hi), none, some (1, (lo + ((hi - lo) / 2))), none]) d_Mo_floorOf_36 (by decide) rfl ?_
      refine zV_aload_n d_Mo_floorOf_38 rfl ?_
      refine zV_iload_n d_Mo_floorOf_39 rfl ?_
      refine zV_lload d_Mo_floorOf_40 rfl ?_
      refine zV_lload_n d_Mo_floorOf_42 rfl ?_
      refine zS_invvE (mt' := m_Mo_compareTo) (avs := [(0, x), (1, (lo + ((hi - lo) / 2))), (1, t)]) (st := []) d_Mo_floorOf_43 l_Mo_152 k_Mo_compareTo rfl rfl rfl rfl rfl (s_Mo_compareTo mem x (lo + ((hi - lo) / 2)) t hx (cB_ok hP ht (by omega))) ?_
      show zS zT m_Mo_floorOf (0, 0) 46 [some (2, 80), some (0, x), some (1, t), none, some (1, lo), none, some (1, hi), none, some (1, (lo + ((hi - lo) / 2))), none] [(0, (cmF (mP mem x) (lo + ((hi - lo) / 2)) t))] mem _
      refine zV_if_lt d_Mo_floorOf_46 (sg3_i _ _ _) (fun c46 => ?_) (fun c46 => ?_)
      · refine zV_lload d_Mo_floorOf_56 rfl ?_
        refine zV_lstore (L' := [some (2, 80), some (0, x), some (1, t), none, some (1, lo), none, some (1, (lo + ((hi - lo) / 2))), none, some (1, (lo + ((hi - lo) / 2))), none]) d_Mo_floorOf_58 (by decide) rfl ?_
        refine zV_goto d_Mo_floorOf_60 ?_
        refine zV_forget (L' := [some (2, 80), some (0, x), some (1, t), none, some (1, lo), none, some (1, (lo + ((hi - lo) / 2))), none, none, none]) (by simp [zle]) ?_
        exact ih _ (by omega) _ _ rfl (by omega) (by omega) (by omega)
      · refine zV_lload d_Mo_floorOf_49 rfl ?_
        refine zV_lstore (L' := [some (2, 80), some (0, x), some (1, t), none, some (1, (lo + ((hi - lo) / 2))), none, some (1, hi), none, some (1, (lo + ((hi - lo) / 2))), none]) d_Mo_floorOf_51 (by decide) rfl ?_
        refine zV_goto d_Mo_floorOf_53 ?_
        refine zV_goto d_Mo_floorOf_60 ?_
        refine zV_forget (L' := [some (2, 80), some (0, x), some (1, t), none, some (1, (lo + ((hi - lo) / 2))), none, some (1, hi), none, none, none]) (by simp [zle]) ?_
        exact ih _ (by omega) _ _ rfl (by omega) (by omega) (by omega)
theorem s_Mo_floorOf (mem : zMem) (x t : Int) (hx : 0 ≤ x ∧ x < 64) (ht : 0 < t ∧ t ≤ 4194304) (hP : okQ (mP mem x)) : zF m_Mo_floorOf [(2, 80), (0, x), (1, t)] mem (fun r m => ∃ v, r = some (1, v) ∧ m = mem ∧ flR (mP mem x) t v) := by
  obtain ⟨f1, f2⟩ := cm_far hP ht.1
  refine zF_of (by decide) (Nat.le_of_ble_eq_true rfl) ?_
  show zS zT m_Mo_floorOf (0, 0) 0 [some (2, 80), some (0, x), some (1, t), none, none, none, none, none, none, none] [] mem _
  refine zV_ldc2 (a := (-100)) d_Mo_floorOf_0 n_Mo_146 rfl ?_
  refine zV_lload_n d_Mo_floorOf_3 rfl ?_
  refine zV_lmul d_Mo_floorOf_4 ?_
  refine zV_lstore (L' := [some (2, 80), some (0, x), some (1, t), none, some (1, ((-100) * t)), none, none, none, none, none]) d_Mo_floorOf_5 (by decide) rfl ?_
  refine zV_ldc2 (a := 100) d_Mo_floorOf_7 n_Mo_148 rfl ?_
  refine zV_lload_n d_Mo_floorOf_10 rfl ?_
  refine zV_lmul d_Mo_floorOf_11 ?_
  refine zV_lstore (L' := [some (2, 80), some (0, x), some (1, t), none, some (1, ((-100) * t)), none, some (1, (100 * t)), none, none, none]) d_Mo_floorOf_12 (by decide) rfl ?_
  exact s_Mo_floorOf_l mem x t hx ht hP (-100 * t) (100 * t) (by omega) (by omega) (by omega)
/-- the difference of two curves at a number -/
def dfM (mem : zMem) (a b k : Int) : Int := sgP (mP mem k) (sqK (mem 82 a) - sqK (mem 82 b)) (slK (mem 82 a) (mem 83 a) - slK (mem 82 b) (mem 83 b)) (mem 84 a - mem 84 b)
/-- what keeps it from wrapping -/
def dB (P : Pt) : Prop := okP P ∨ ((P.2.1 = 0 ∧ P.2.2.1 = 0) ∧ (0 < P.2.2.2 ∧ P.2.2.2 ≤ 4194304) ∧ (-419430401 ≤ P.1 ∧ P.1 ≤ 419430401))
theorem dB_ok {P : Pt} {x y z : Int} (h : dB P) (hx : -2 ≤ x ∧ x ≤ 2) (hy : -18 ≤ y ∧ y ≤ 18) (hz : -18 ≤ z ∧ z ≤ 18) : I64 (x * (P.1 * P.1 + P.2.1 * P.2.1 * P.2.2.1) + y * P.2.2.2 * P.1 + z * P.2.2.2 * P.2.2.2) ∧ I64 (P.2.1 * (2 * x * P.1 + y * P.2.2.2)) ∧ I64 P.2.2.1 ∧ (P.2.2.1 ≠ 0 → I64 ((x * (P.1 * P.1 + P.2.1 * P.2.1 * P.2.2.1) + y * P.2.2.2 * P.1 + z * P.2.2.2 * P.2.2.2) * (x * (P.1 * P.1 + P.2.1 * P.2.1 * P.2.2.1) + y * P.2.2.2 * P.1 + z * P.2.2.2 * P.2.2.2) - P.2.1 * (2 * x * P.1 + y * P.2.2.2) * (P.2.1 * (2 * x * P.1 + y * P.2.2.2)) * P.2.2.1)) := by
  rcases h with h | ⟨⟨h1, h2⟩, h3, h4⟩
  · have b := B3_i (B3_ok (a := x) (b := y) (c := z) h ⟨by omega, by omega⟩ ⟨by omega, by omega⟩ ⟨by omega, by omega⟩)
    have e : x * (P.1 * P.1 + P.2.1 * P.2.1 * P.2.2.1) + (y * P.1 + z * P.2.2.2) * P.2.2.2 = x * (P.1 * P.1 + P.2.1 * P.2.1 * P.2.2.1) + y * P.2.2.2 * P.1 + z * P.2.2.2 * P.2.2.2 := by grind
    rw [e] at b
    obtain ⟨b1, b2, b3, b4, b5⟩ := b
    have c := B3_ok (a := x) (b := y) (c := z) h ⟨by omega, by omega⟩ ⟨by omega, by omega⟩ ⟨by omega, by omega⟩
    rw [e] at c
    obtain ⟨c1, c2, c3⟩ := c
    have d1 := mb c1 c1
    have d2 := mb (mb c2 c2) c3
    exact ⟨b1, b2, b3, fun _ => by omega⟩
  · rw [h1, h2]
    have q1 := mb hx (mb h4 h4)
    have q2 := mb (mb hy (⟨by omega, h3.2⟩ : -4194304 ≤ P.2.2.2 ∧ P.2.2.2 ≤ 4194304)) h4
    have q3 := mb (mb hz (⟨by omega, h3.2⟩ : -4194304 ≤ P.2.2.2 ∧ P.2.2.2 ≤ 4194304)) (⟨by omega, h3.2⟩ : -4194304 ≤ P.2.2.2 ∧ P.2.2.2 ≤ 4194304)
    refine ⟨?_, ?_, ?_, fun z => absurd rfl z⟩
    · rw [Int.mul_zero, Int.add_zero]
      omega
    · rw [Int.zero_mul]
      omega
    · omega
theorem s_Mo_difference (mem : zMem) (a b k : Int) (hK : moK mem) (ha : 0 ≤ a ∧ a < 4) (hb : 0 ≤ b ∧ b < 4) (hk : 0 ≤ k ∧ k < 64) (hD : dB (mP mem k)) : zF m_Mo_difference [(2, 80), (0, a), (0, b), (0, k)] mem (fun r m => r = some (0, dfM mem a b k) ∧ m = mem) := by
  have ka := hK.2 a ha.1 ha.2
  have kb := hK.2 b hb.1 hb.2
  have qa := sqK_r (mem 82 a)
  have qb := sqK_r (mem 82 b)
  have la := slK_r (k := mem 82 a) ka.2.1
  have lb := slK_r (k := mem 82 b) kb.2.1
  have hx : -2 ≤ sqK (mem 82 a) - sqK (mem 82 b) ∧ sqK (mem 82 a) - sqK (mem 82 b) ≤ 2 := by omega
  have hy : -18 ≤ slK (mem 82 a) (mem 83 a) - slK (mem 82 b) (mem 83 b) ∧ slK (mem 82 a) (mem 83 a) - slK (mem 82 b) (mem 83 b) ≤ 18 := by omega
  have hz : -18 ≤ mem 84 a - mem 84 b ∧ mem 84 a - mem 84 b ≤ 18 := by omega
  refine zF_of (by decide) (Nat.le_of_ble_eq_true rfl) ?_
  show zS zT m_Mo_difference (0, 0) 0 [some (2, 80), some (0, a), some (0, b), some (0, k), none, none, none, none, none, none, none, none, none, none, none, none, none, none] [] mem _
  refine zV_aload_n d_Mo_difference_0 rfl ?_
  refine zV_iload_n d_Mo_difference_1 rfl ?_
  refine zS_invvE (mt' := m_Mo_square) (avs := [(0, a)]) (st := []) d_Mo_difference_2 l_Mo_126 k_Mo_square rfl rfl rfl rfl rfl (s_Mo_square mem a hK (by omega)) ?_
  show zS zT m_Mo_difference (0, 0) 5 [some (2, 80), some (0, a), some (0, b), some (0, k), none, none, none, none, none, none, none, none, none, none, none, none, none, none] [(0, (sqK (mem 82 a)))] mem _
  refine zV_aload_n d_Mo_difference_5 rfl ?_
  refine zV_iload_n d_Mo_difference_6 rfl ?_
  refine zS_invvE (mt' := m_Mo_square) (avs := [(0, b)]) (st := [(0, (sqK (mem 82 a)))]) d_Mo_difference_7 l_Mo_126 k_Mo_square rfl rfl rfl rfl rfl (s_Mo_square mem b hK (by omega)) ?_
  show zS zT m_Mo_difference (0, 0) 10 [some (2, 80), some (0, a), some (0, b), some (0, k), none, none, none, none, none, none, none, none, none, none, none, none, none, none] [(0, (sqK (mem 82 b))), (0, (sqK (mem 82 a)))] mem _
  refine zV_isub d_Mo_difference_10 ?_
  refine zV_i2l d_Mo_difference_11 (by omega) ?_
  refine zV_lstore (L' := [some (2, 80), some (0, a), some (0, b), some (0, k), some (1, ((sqK (mem 82 a)) - (sqK (mem 82 b)))), none, none, none, none, none, none, none, none, none, none, none, none, none]) d_Mo_difference_12 (by decide) rfl ?_
  refine zV_aload_n d_Mo_difference_14 rfl ?_
  refine zV_iload_n d_Mo_difference_15 rfl ?_
  refine zS_invvE (mt' := m_Mo_slope) (avs := [(0, a)]) (st := []) d_Mo_difference_16 l_Mo_129 k_Mo_slope rfl rfl rfl rfl rfl (s_Mo_slope mem a hK (by omega)) ?_
  show zS zT m_Mo_difference (0, 0) 19 [some (2, 80), some (0, a), some (0, b), some (0, k), some (1, ((sqK (mem 82 a)) - (sqK (mem 82 b)))), none, none, none, none, none, none, none, none, none, none, none, none, none] [(0, (slK (mem 82 a) (mem 83 a)))] mem _
  refine zV_aload_n d_Mo_difference_19 rfl ?_
  refine zV_iload_n d_Mo_difference_20 rfl ?_
  refine zS_invvE (mt' := m_Mo_slope) (avs := [(0, b)]) (st := [(0, (slK (mem 82 a) (mem 83 a)))]) d_Mo_difference_21 l_Mo_129 k_Mo_slope rfl rfl rfl rfl rfl (s_Mo_slope mem b hK (by omega)) ?_
  show zS zT m_Mo_difference (0, 0) 24 [some (2, 80), some (0, a), some (0, b), some (0, k), some (1, ((sqK (mem 82 a)) - (sqK (mem 82 b)))), none, none, none, none, none, none, none, none, none, none, none, none, none] [(0, (slK (mem 82 b) (mem 83 b))), (0, (slK (mem 82 a) (mem 83 a)))] mem _
  refine zV_isub d_Mo_difference_24 ?_
  refine zV_i2l d_Mo_difference_25 (by omega) ?_
  refine zV_lstore (L' := [some (2, 80), some (0, a), some (0, b), some (0, k), some (1, ((sqK (mem 82 a)) - (sqK (mem 82 b)))), none, some (1, ((slK (mem 82 a) (mem 83 a)) - (slK (mem 82 b) (mem 83 b)))), none, none, none, none, none, none, none, none, none, none, none]) d_Mo_difference_26 (by decide) rfl ?_
  refine zV_aload_n d_Mo_difference_28 rfl ?_
  refine zS_getr (r := 84) d_Mo_difference_29 f_Mo_19 rfl rfl rfl ?_
  refine zV_iload_n d_Mo_difference_32 rfl ?_
  refine zS_iald d_Mo_difference_33 rfl rfl ⟨by omega, by omega⟩ ?_
  refine zV_aload_n d_Mo_difference_34 rfl ?_
  refine zS_getr (r := 84) d_Mo_difference_35 f_Mo_19 rfl rfl rfl ?_
  refine zV_iload_n d_Mo_difference_38 rfl ?_
  refine zS_iald d_Mo_difference_39 rfl rfl ⟨by omega, by omega⟩ ?_
  refine zV_isub d_Mo_difference_40 ?_
  refine zV_i2l d_Mo_difference_41 (by omega) ?_
  refine zV_lstore (L' := [some (2, 80), some (0, a), some (0, b), some (0, k), some (1, ((sqK (mem 82 a)) - (sqK (mem 82 b)))), none, some (1, ((slK (mem 82 a) (mem 83 a)) - (slK (mem 82 b) (mem 83 b)))), none, some (1, ((mem 84 a) - (mem 84 b))), none, none, none, none, none, none, none, none, none]) d_Mo_difference_42 (by decide) rfl ?_
  refine zV_aload_n d_Mo_difference_44 rfl ?_
  refine zS_getr (r := 86) d_Mo_difference_45 f_Mo_25 rfl rfl rfl ?_
  refine zV_iload_n d_Mo_difference_48 rfl ?_
  refine zS_lald d_Mo_difference_49 rfl rfl ⟨by omega, by omega⟩ ?_
  refine zV_lstore (L' := [some (2, 80), some (0, a), some (0, b), some (0, k), some (1, ((sqK (mem 82 a)) - (sqK (mem 82 b)))), none, some (1, ((slK (mem 82 a) (mem 83 a)) - (slK (mem 82 b) (mem 83 b)))), none, some (1, ((mem 84 a) - (mem 84 b))), none, some (1, (mem 86 k)), none, none, none, none, none, none, none]) d_Mo_difference_50 (by decide) rfl ?_
  refine zV_aload_n d_Mo_difference_52 rfl ?_
  refine zS_getr (r := 89) d_Mo_difference_53 f_Mo_35 rfl rfl rfl ?_
  refine zV_iload_n d_Mo_difference_56 rfl ?_
  refine zS_lald d_Mo_difference_57 rfl rfl ⟨by omega, by omega⟩ ?_
  refine zV_lstore (L' := [some (2, 80), some (0, a), some (0, b), some (0, k), some (1, ((sqK (mem 82 a)) - (sqK (mem 82 b)))), none, some (1, ((slK (mem 82 a) (mem 83 a)) - (slK (mem 82 b) (mem 83 b)))), none, some (1, ((mem 84 a) - (mem 84 b))), none, some (1, (mem 86 k)), none, some (1, (mem 89 k)), none, none, none, none, none]) d_Mo_difference_58 (by decide) rfl ?_
  refine zV_aload_n d_Mo_difference_60 rfl ?_
  refine zS_getr (r := 87) d_Mo_difference_61 f_Mo_29 rfl rfl rfl ?_
  refine zV_iload_n d_Mo_difference_64 rfl ?_
  refine zS_lald d_Mo_difference_65 rfl rfl ⟨by omega, by omega⟩ ?_
  refine zV_lstore (L' := [some (2, 80), some (0, a), some (0, b), some (0, k), some (1, ((sqK (mem 82 a)) - (sqK (mem 82 b)))), none, some (1, ((slK (mem 82 a) (mem 83 a)) - (slK (mem 82 b) (mem 83 b)))), none, some (1, ((mem 84 a) - (mem 84 b))), none, some (1, (mem 86 k)), none, some (1, (mem 89 k)), none, some (1, (mem 87 k)), none, none, none]) d_Mo_difference_66 (by decide) rfl ?_
  refine zV_lload d_Mo_difference_68 rfl ?_
  refine zV_lload d_Mo_difference_70 rfl ?_
  refine zV_lload d_Mo_difference_72 rfl ?_
  refine zV_lmul d_Mo_difference_74 ?_
  refine zV_lload d_Mo_difference_75 rfl ?_
  refine zV_lload d_Mo_difference_77 rfl ?_
  refine zV_lmul d_Mo_difference_79 ?_
  refine zV_aload_n d_Mo_difference_80 rfl ?_
  refine zS_getr (r := 88) d_Mo_difference_81 f_Mo_32 rfl rfl rfl ?_
  refine zV_iload_n d_Mo_difference_84 rfl ?_
  refine zS_lald d_Mo_difference_85 rfl rfl ⟨by omega, by omega⟩ ?_
  refine zV_lmul d_Mo_difference_86 ?_
  refine zV_ladd d_Mo_difference_87 ?_
  refine zV_lmul d_Mo_difference_88 ?_
  refine zV_lload d_Mo_difference_89 rfl ?_
  refine zV_lload d_Mo_difference_91 rfl ?_
  refine zV_lmul d_Mo_difference_93 ?_
  refine zV_lload d_Mo_difference_94 rfl ?_
  refine zV_lmul d_Mo_difference_96 ?_
  refine zV_ladd d_Mo_difference_97 ?_
  refine zV_lload d_Mo_difference_98 rfl ?_
  refine zV_lload d_Mo_difference_100 rfl ?_
  refine zV_lmul d_Mo_difference_102 ?_
  refine zV_lload d_Mo_difference_103 rfl ?_
  refine zV_lmul d_Mo_difference_105 ?_
  refine zV_ladd d_Mo_difference_106 ?_
  refine zV_lstore (L' := [some (2, 80), some (0, a), some (0, b), some (0, k), some (1, ((sqK (mem 82 a)) - (sqK (mem 82 b)))), none, some (1, ((slK (mem 82 a) (mem 83 a)) - (slK (mem 82 b) (mem 83 b)))), none, some (1, ((mem 84 a) - (mem 84 b))), none, some (1, (mem 86 k)), none, some (1, (mem 89 k)), none, some (1, (mem 87 k)), none, some (1, (((((sqK (mem 82 a)) - (sqK (mem 82 b))) * (((mem 86 k) * (mem 86 k)) + (((mem 87 k) * (mem 87 k)) * (mem 88 k)))) + ((((slK (mem 82 a) (mem 83 a)) - (slK (mem 82 b) (mem 83 b))) * (mem 89 k)) * (mem 86 k))) + ((((mem 84 a) - (mem 84 b)) * (mem 89 k)) * (mem 89 k)))), none]) d_Mo_difference_107 (by decide) rfl ?_
  refine zV_lload d_Mo_difference_109 rfl ?_
  refine zV_lload d_Mo_difference_111 rfl ?_
  refine zV_ldc2 (a := 2) d_Mo_difference_113 n_Mo_150 rfl ?_
  refine zV_lload d_Mo_difference_116 rfl ?_
  refine zV_lmul d_Mo_difference_118 ?_
  refine zV_lload d_Mo_difference_119 rfl ?_
  refine zV_lmul d_Mo_difference_121 ?_
  refine zV_lload d_Mo_difference_122 rfl ?_
  refine zV_lload d_Mo_difference_124 rfl ?_
  refine zV_lmul d_Mo_difference_126 ?_
  refine zV_ladd d_Mo_difference_127 ?_
  refine zV_lmul d_Mo_difference_128 ?_
  refine zV_aload_n d_Mo_difference_129 rfl ?_
  refine zS_getr (r := 88) d_Mo_difference_130 f_Mo_32 rfl rfl rfl ?_
  refine zV_iload_n d_Mo_difference_133 rfl ?_
  refine zS_lald d_Mo_difference_134 rfl rfl ⟨by omega, by omega⟩ ?_
  refine zS_invsE (mt' := m_Mo_signRoot) (avs := [(1, (((((sqK (mem 82 a)) - (sqK (mem 82 b))) * (((mem 86 k) * (mem 86 k)) + (((mem 87 k) * (mem 87 k)) * (mem 88 k)))) + ((((slK (mem 82 a) (mem 83 a)) - (slK (mem 82 b) (mem 83 b))) * (mem 89 k)) * (mem 86 k))) + ((((mem 84 a) - (mem 84 b)) * (mem 89 k)) * (mem 89 k)))), (1, ((mem 87 k) * (((2 * ((sqK (mem 82 a)) - (sqK (mem 82 b)))) * (mem 86 k)) + (((slK (mem 82 a) (mem 83 a)) - (slK (mem 82 b) (mem 83 b))) * (mem 89 k))))), (1, (mem 88 k))]) (st := []) d_Mo_difference_135 l_Mo_136 k_Mo_signRoot rfl rfl rfl rfl (s_Mo_signRoot mem (((((sqK (mem 82 a)) - (sqK (mem 82 b))) * (((mem 86 k) * (mem 86 k)) + (((mem 87 k) * (mem 87 k)) * (mem 88 k)))) + ((((slK (mem 82 a) (mem 83 a)) - (slK (mem 82 b) (mem 83 b))) * (mem 89 k)) * (mem 86 k))) + ((((mem 84 a) - (mem 84 b)) * (mem 89 k)) * (mem 89 k))) ((mem 87 k) * (((2 * ((sqK (mem 82 a)) - (sqK (mem 82 b)))) * (mem 86 k)) + (((slK (mem 82 a) (mem 83 a)) - (slK (mem 82 b) (mem 83 b))) * (mem 89 k)))) (mem 88 k) (by have z := (dB_ok hD hx hy hz); exact z.1) (by have z := (dB_ok hD hx hy hz); exact z.2.1) (by have z := (dB_ok hD hx hy hz); exact z.2.2.1) (by have z := (dB_ok hD hx hy hz); exact z.2.2.2)) ?_
  show zS zT m_Mo_difference (0, 0) 138 [some (2, 80), some (0, a), some (0, b), some (0, k), some (1, ((sqK (mem 82 a)) - (sqK (mem 82 b)))), none, some (1, ((slK (mem 82 a) (mem 83 a)) - (slK (mem 82 b) (mem 83 b)))), none, some (1, ((mem 84 a) - (mem 84 b))), none, some (1, (mem 86 k)), none, some (1, (mem 89 k)), none, some (1, (mem 87 k)), none, some (1, (((((sqK (mem 82 a)) - (sqK (mem 82 b))) * (((mem 86 k) * (mem 86 k)) + (((mem 87 k) * (mem 87 k)) * (mem 88 k)))) + ((((slK (mem 82 a) (mem 83 a)) - (slK (mem 82 b) (mem 83 b))) * (mem 89 k)) * (mem 86 k))) + ((((mem 84 a) - (mem 84 b)) * (mem 89 k)) * (mem 89 k)))), none] [(0, (sg3 (((((sqK (mem 82 a)) - (sqK (mem 82 b))) * (((mem 86 k) * (mem 86 k)) + (((mem 87 k) * (mem 87 k)) * (mem 88 k)))) + ((((slK (mem 82 a) (mem 83 a)) - (slK (mem 82 b) (mem 83 b))) * (mem 89 k)) * (mem 86 k))) + ((((mem 84 a) - (mem 84 b)) * (mem 89 k)) * (mem 89 k))) ((mem 87 k) * (((2 * ((sqK (mem 82 a)) - (sqK (mem 82 b)))) * (mem 86 k)) + (((slK (mem 82 a) (mem 83 a)) - (slK (mem 82 b) (mem 83 b))) * (mem 89 k)))) (mem 88 k)))] mem _
  exact zS_iret d_Mo_difference_138 rfl ⟨Nat.zero_le _, Nat.zero_le _⟩ (by refine ⟨?_, rfl⟩; unfold dfM sgP mP; simp only; congr 3; grind)
