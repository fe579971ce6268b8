/-! leaves: comparisons, curves, exact signs -/
def cmpI (a b : Int) : Int := if a < b then -1 else if a = b then 0 else 1
theorem cmpI_r (a b : Int) : -1 ≤ cmpI a b ∧ cmpI a b ≤ 1 := by unfold cmpI; (repeat' split) <;> omega
theorem s_Lo_compare (mem : zMem) (a b : Int) (ha : I64 a) (hb : I64 b) : zF m_Lo_compare [(1, a), (1, b)] mem (fun r m => r = some (0, cmpI a b) ∧ m = mem) := by
  refine zF_of (by decide) (Nat.le_of_ble_eq_true rfl) ?_
  show zS zT m_Lo_compare (0, 0) 0 [some (1, a), none, some (1, b), none] [] mem _
  refine zV_lload_n d_Lo_compare_0 rfl ?_
  refine zV_lload_n d_Lo_compare_1 rfl ?_
  refine zV_lcmp_ge d_Lo_compare_2 d_Lo_compare_3 (by omega) (by omega) (fun c2 => ?_) (fun c2 => ?_)
  · refine zV_lload_n d_Lo_compare_10 rfl ?_
    refine zV_lload_n d_Lo_compare_11 rfl ?_
    refine zV_lcmp_ne d_Lo_compare_12 d_Lo_compare_13 (by omega) (by omega) (fun c12 => ?_) (fun c12 => ?_)
    · refine zV_iconst d_Lo_compare_20 ?_
      exact zS_iret d_Lo_compare_21 rfl ⟨Nat.zero_le _, Nat.zero_le _⟩ (by refine ⟨?_, rfl⟩; unfold cmpI; (repeat' split) <;> first | rfl | omega)
    · refine zV_iconst d_Lo_compare_16 ?_
      refine zV_goto d_Lo_compare_17 ?_
      exact zS_iret d_Lo_compare_21 rfl ⟨Nat.zero_le _, Nat.zero_le _⟩ (by refine ⟨?_, rfl⟩; unfold cmpI; (repeat' split) <;> first | rfl | omega)
  · refine zV_iconst d_Lo_compare_6 ?_
    refine zV_goto d_Lo_compare_7 ?_
    exact zS_iret d_Lo_compare_21 rfl ⟨Nat.zero_le _, Nat.zero_le _⟩ (by refine ⟨?_, rfl⟩; unfold cmpI; (repeat' split) <;> first | rfl | omega)
theorem s_In_compare (mem : zMem) (a b : Int) (ha : I32 a) (hb : I32 b) : zF m_In_compare [(0, a), (0, b)] mem (fun r m => r = some (0, cmpI a b) ∧ m = mem) := by
  refine zF_of (by decide) (Nat.le_of_ble_eq_true rfl) ?_
  show zS zT m_In_compare (0, 0) 0 [some (0, a), some (0, b)] [] mem _
  refine zV_iload_n d_In_compare_0 rfl ?_
  refine zV_iload_n d_In_compare_1 rfl ?_
  refine zV_icmp_ge d_In_compare_2 (by omega) (by omega) (fun c2 => ?_) (fun c2 => ?_)
  · refine zV_iload_n d_In_compare_9 rfl ?_
    refine zV_iload_n d_In_compare_10 rfl ?_
    refine zV_icmp_ne d_In_compare_11 (by omega) (by omega) (fun c11 => ?_) (fun c11 => ?_)
    · refine zV_iconst d_In_compare_18 ?_
      exact zS_iret d_In_compare_19 rfl ⟨Nat.zero_le _, Nat.zero_le _⟩ (by refine ⟨?_, rfl⟩; unfold cmpI; (repeat' split) <;> first | rfl | omega)
    · refine zV_iconst d_In_compare_14 ?_
      refine zV_goto d_In_compare_15 ?_
      exact zS_iret d_In_compare_19 rfl ⟨Nat.zero_le _, Nat.zero_le _⟩ (by refine ⟨?_, rfl⟩; unfold cmpI; (repeat' split) <;> first | rfl | omega)
  · refine zV_iconst d_In_compare_5 ?_
    refine zV_goto d_In_compare_6 ?_
    exact zS_iret d_In_compare_19 rfl ⟨Nat.zero_le _, Nat.zero_le _⟩ (by refine ⟨?_, rfl⟩; unfold cmpI; (repeat' split) <;> first | rfl | omega)
def maxI (a b : Int) : Int := if b ≤ a then a else b
def minI (a b : Int) : Int := if a ≤ b then a else b
theorem s_Ma_max (mem : zMem) (a b : Int) (ha : I32 a) (hb : I32 b) : zF m_Ma_max [(0, a), (0, b)] mem (fun r m => r = some (0, maxI a b) ∧ m = mem) := by
  refine zF_ofF pf_max (Nat.le_of_ble_eq_true rfl) ?_
  show zS zT m_Ma_max (0, 0) 0 [some (0, a), some (0, b)] [] mem _
  refine zV_iload_n d_Ma_max_0 rfl ?_
  refine zV_iload_n d_Ma_max_1 rfl ?_
  refine zV_icmp_lt d_Ma_max_2 (by omega) (by omega) (fun c2 => ?_) (fun c2 => ?_)
  · refine zV_iload_n d_Ma_max_9 rfl ?_
    exact zS_iret d_Ma_max_10 rfl ⟨Nat.zero_le _, Nat.zero_le _⟩ (by refine ⟨?_, rfl⟩; unfold maxI; (repeat' split) <;> first | rfl | omega)
  · refine zV_iload_n d_Ma_max_5 rfl ?_
    refine zV_goto d_Ma_max_6 ?_
    exact zS_iret d_Ma_max_10 rfl ⟨Nat.zero_le _, Nat.zero_le _⟩ (by refine ⟨?_, rfl⟩; unfold maxI; (repeat' split) <;> first | rfl | omega)
theorem s_Ma_min (mem : zMem) (a b : Int) (ha : I32 a) (hb : I32 b) : zF m_Ma_min [(0, a), (0, b)] mem (fun r m => r = some (0, minI a b) ∧ m = mem) := by
  refine zF_ofF pf_min (Nat.le_of_ble_eq_true rfl) ?_
  show zS zT m_Ma_min (0, 0) 0 [some (0, a), some (0, b)] [] mem _
  refine zV_iload_n d_Ma_min_0 rfl ?_
  refine zV_iload_n d_Ma_min_1 rfl ?_
  refine zV_icmp_gt d_Ma_min_2 (by omega) (by omega) (fun c2 => ?_) (fun c2 => ?_)
  · refine zV_iload_n d_Ma_min_9 rfl ?_
    exact zS_iret d_Ma_min_10 rfl ⟨Nat.zero_le _, Nat.zero_le _⟩ (by refine ⟨?_, rfl⟩; unfold minI; (repeat' split) <;> first | rfl | omega)
  · refine zV_iload_n d_Ma_min_5 rfl ?_
    refine zV_goto d_Ma_min_6 ?_
    exact zS_iret d_Ma_min_10 rfl ⟨Nat.zero_le _, Nat.zero_le _⟩ (by refine ⟨?_, rfl⟩; unfold minI; (repeat' split) <;> first | rfl | omega)
def sqK (k : Int) : Int := if k = 0 then 1 else if k = 4 then -1 else 0
def slK (k b : Int) : Int := if k = 2 then 0 else b
theorem s_Cu_squareOf (mem : zMem) (k : Int) (hk : I32 k) : zF m_Cu_squareOf [(0, k)] mem (fun r m => r = some (0, sqK k) ∧ m = mem) := by
  refine zF_of (by decide) (Nat.le_of_ble_eq_true rfl) ?_
  show zS zT m_Cu_squareOf (0, 0) 0 [some (0, k)] [] mem _
  refine zV_iload_n d_Cu_squareOf_0 rfl ?_
  refine zV_if_ne d_Cu_squareOf_1 (by omega) (fun c1 => ?_) (fun c1 => ?_)
  · refine zV_iload_n d_Cu_squareOf_8 rfl ?_
    refine zV_iconst d_Cu_squareOf_9 ?_
    refine zV_icmp_ne d_Cu_squareOf_10 (by omega) (by omega) (fun c10 => ?_) (fun c10 => ?_)
    · refine zV_iconst d_Cu_squareOf_17 ?_
      exact zS_iret d_Cu_squareOf_18 rfl ⟨Nat.zero_le _, Nat.zero_le _⟩ (by refine ⟨?_, rfl⟩; unfold sqK; (repeat' split) <;> first | rfl | omega)
    · refine zV_iconst d_Cu_squareOf_13 ?_
      refine zV_goto d_Cu_squareOf_14 ?_
      exact zS_iret d_Cu_squareOf_18 rfl ⟨Nat.zero_le _, Nat.zero_le _⟩ (by refine ⟨?_, rfl⟩; unfold sqK; (repeat' split) <;> first | rfl | omega)
  · refine zV_iconst d_Cu_squareOf_4 ?_
    refine zV_goto d_Cu_squareOf_5 ?_
    exact zS_iret d_Cu_squareOf_18 rfl ⟨Nat.zero_le _, Nat.zero_le _⟩ (by refine ⟨?_, rfl⟩; unfold sqK; (repeat' split) <;> first | rfl | omega)
theorem s_Cu_slopeAs (mem : zMem) (x k : Int) (hx : zkd zSH x = (0, 0)) (hk : I32 k) : zF m_Cu_slopeAs [(2, x), (0, k)] mem (fun r m => r = some (0, slK k (mem x 1)) ∧ m = mem) := by
  refine zF_of (by decide) (Nat.le_of_ble_eq_true rfl) ?_
  show zS zT m_Cu_slopeAs (0, 0) 0 [some (2, x), some (0, k)] [] mem _
  refine zV_iload_n d_Cu_slopeAs_0 rfl ?_
  refine zV_iconst d_Cu_slopeAs_1 ?_
  refine zV_icmp_ne d_Cu_slopeAs_2 (by omega) (by omega) (fun c2 => ?_) (fun c2 => ?_)
  · refine zV_aload_n d_Cu_slopeAs_9 rfl ?_
    refine zS_get d_Cu_slopeAs_10 f_Cu_15 hx rfl ?_
    exact zS_iret d_Cu_slopeAs_13 rfl ⟨Nat.zero_le _, Nat.zero_le _⟩ (by refine ⟨?_, rfl⟩; unfold slK; (repeat' split) <;> first | rfl | omega)
  · refine zV_iconst d_Cu_slopeAs_5 ?_
    refine zV_goto d_Cu_slopeAs_6 ?_
    exact zS_iret d_Cu_slopeAs_13 rfl ⟨Nat.zero_le _, Nat.zero_le _⟩ (by refine ⟨?_, rfl⟩; unfold slK; (repeat' split) <;> first | rfl | omega)
theorem s_Cu_isUpright (mem : zMem) (x : Int) (hx : zkd zSH x = (0, 0)) (hk : I32 (mem x 0)) : zF m_Cu_isUpright [(2, x)] mem (fun r m => r = some (0, zb (mem x 0 = 3)) ∧ m = mem) := by
  refine zF_of (by decide) (Nat.le_of_ble_eq_true rfl) ?_
  show zS zT m_Cu_isUpright (0, 0) 0 [some (2, x)] [] mem _
  refine zV_aload_n d_Cu_isUpright_0 rfl ?_
  refine zS_get d_Cu_isUpright_1 f_Cu_9 hx rfl ?_
  refine zV_iconst d_Cu_isUpright_4 ?_
  refine zV_icmp_ne d_Cu_isUpright_5 (by omega) (by omega) (fun c5 => ?_) (fun c5 => ?_)
  · refine zV_iconst d_Cu_isUpright_12 ?_
    exact zS_zret d_Cu_isUpright_13 rfl ⟨Nat.zero_le _, Nat.zero_le _⟩ (Or.inl rfl) (by refine ⟨?_, rfl⟩; first | rw [zb_t (by omega)] | rw [zb_f (by omega)])
  · refine zV_iconst d_Cu_isUpright_8 ?_
    refine zV_goto d_Cu_isUpright_9 ?_
    exact zS_zret d_Cu_isUpright_13 rfl ⟨Nat.zero_le _, Nat.zero_le _⟩ (Or.inr rfl) (by refine ⟨?_, rfl⟩; first | rw [zb_t (by omega)] | rw [zb_f (by omega)])
theorem s_Cu_isSuch (mem : zMem) (x w : Int) (hx : zkd zSH x = (0, 0)) (hk : I32 (mem x 0)) (hw : I32 w) : zF m_Cu_isSuch [(2, x), (0, w)] mem (fun r m => r = some (0, zb (w = 0 ∨ w = mem x 0 ∨ (w = 1 ∧ mem x 0 = 2))) ∧ m = mem) := by
  refine zF_of (by decide) (Nat.le_of_ble_eq_true rfl) ?_
  show zS zT m_Cu_isSuch (0, 0) 0 [some (2, x), some (0, w)] [] mem _
  refine zV_iload_n d_Cu_isSuch_0 rfl ?_
  refine zV_if_eq d_Cu_isSuch_1 (by omega) (fun c1 => ?_) (fun c1 => ?_)
  · refine zV_iconst d_Cu_isSuch_25 ?_
    refine zV_goto d_Cu_isSuch_26 ?_
    exact zS_zret d_Cu_isSuch_30 rfl ⟨Nat.zero_le _, Nat.zero_le _⟩ (Or.inr rfl) (by refine ⟨?_, rfl⟩; first | rw [zb_t (by omega)] | rw [zb_f (by omega)])
  · refine zV_iload_n d_Cu_isSuch_4 rfl ?_
    refine zV_aload_n d_Cu_isSuch_5 rfl ?_
    refine zS_get d_Cu_isSuch_6 f_Cu_9 hx rfl ?_
    refine zV_icmp_eq d_Cu_isSuch_9 (by omega) (by omega) (fun c9 => ?_) (fun c9 => ?_)
    · refine zV_iconst d_Cu_isSuch_25 ?_
      refine zV_goto d_Cu_isSuch_26 ?_
      exact zS_zret d_Cu_isSuch_30 rfl ⟨Nat.zero_le _, Nat.zero_le _⟩ (Or.inr rfl) (by refine ⟨?_, rfl⟩; first | rw [zb_t (by omega)] | rw [zb_f (by omega)])
    · refine zV_iload_n d_Cu_isSuch_12 rfl ?_
      refine zV_iconst d_Cu_isSuch_13 ?_
      refine zV_icmp_ne d_Cu_isSuch_14 (by omega) (by omega) (fun c14 => ?_) (fun c14 => ?_)
      · refine zV_iconst d_Cu_isSuch_29 ?_
        exact zS_zret d_Cu_isSuch_30 rfl ⟨Nat.zero_le _, Nat.zero_le _⟩ (Or.inl rfl) (by refine ⟨?_, rfl⟩; first | rw [zb_t (by omega)] | rw [zb_f (by omega)])
      · refine zV_aload_n d_Cu_isSuch_17 rfl ?_
        refine zS_get d_Cu_isSuch_18 f_Cu_9 hx rfl ?_
        refine zV_iconst d_Cu_isSuch_21 ?_
        refine zV_icmp_ne d_Cu_isSuch_22 (by omega) (by omega) (fun c22 => ?_) (fun c22 => ?_)
        · refine zV_iconst d_Cu_isSuch_29 ?_
          exact zS_zret d_Cu_isSuch_30 rfl ⟨Nat.zero_le _, Nat.zero_le _⟩ (Or.inl rfl) (by refine ⟨?_, rfl⟩; first | rw [zb_t (by omega)] | rw [zb_f (by omega)])
        · refine zV_iconst d_Cu_isSuch_25 ?_
          refine zV_goto d_Cu_isSuch_26 ?_
          exact zS_zret d_Cu_isSuch_30 rfl ⟨Nat.zero_le _, Nat.zero_le _⟩ (Or.inr rfl) (by refine ⟨?_, rfl⟩; first | rw [zb_t (by omega)] | rw [zb_f (by omega)])
def wrC (mem : zMem) (x k b c n : Int) : zMem := zup (zup (zup (zup mem x 0 k) x 1 b) x 2 c) x 3 n
theorem s_Cu_write (mem : zMem) (x k b c n : Int) (hx : zkd zSH x = (0, 0)) : zF m_Cu_write [(2, x), (0, k), (0, b), (0, c), (0, n)] mem (fun r m => r = none ∧ m = wrC mem x k b c n) := by
  refine zF_of (by decide) (Nat.le_of_ble_eq_true rfl) ?_
  show zS zT m_Cu_write (0, 0) 0 [some (2, x), some (0, k), some (0, b), some (0, c), some (0, n)] [] mem _
  refine zV_aload_n d_Cu_write_0 rfl ?_
  refine zV_iload_n d_Cu_write_1 rfl ?_
  refine zS_puti d_Cu_write_2 f_Cu_9 hx ⟨rfl, rfl⟩ rfl ?_
  refine zV_aload_n d_Cu_write_5 rfl ?_
  refine zV_iload_n d_Cu_write_6 rfl ?_
  refine zS_puti d_Cu_write_7 f_Cu_15 hx ⟨rfl, rfl⟩ rfl ?_
  refine zV_aload_n d_Cu_write_10 rfl ?_
  refine zV_iload_n d_Cu_write_11 rfl ?_
  refine zS_puti d_Cu_write_12 f_Cu_18 hx ⟨rfl, rfl⟩ rfl ?_
  refine zV_aload_n d_Cu_write_15 rfl ?_
  refine zV_iload d_Cu_write_16 rfl ?_
  refine zS_puti d_Cu_write_18 f_Cu_21 hx ⟨rfl, rfl⟩ rfl ?_
  exact zS_vret d_Cu_write_21 rfl ⟨Nat.zero_le _, Nat.zero_le _⟩ ⟨rfl, rfl⟩
def sdK (k b c x y : Int) : Int := cmpI (if k = 3 then c - x else sqK k * x * x + slK k b * x + c - y) 0 + 1
