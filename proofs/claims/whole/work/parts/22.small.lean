/-! roots, rings, dice, the page -/
theorem s_Ma_floorDiv (mem : zMem) (a b : Int) (ha : I64 a) (hb : 0 < b ∧ b < 9223372036854775808) : zF m_Ma_floorDiv [(1, a), (1, b)] mem (fun r m => r = some (1, a / b) ∧ m = mem) := by
  have hx := xr64_s ha (⟨by omega, by omega⟩ : I64 b)
  obtain ⟨t1, t2⟩ := tdiv_flo (a := a) hb.1
  have hl : I64 (Int.tdiv a b * b) := by
    have q2 : Int.tmod a b = a - b * Int.tdiv a b := Int.tmod_def a b
    have q3 := Int.mul_comm b (Int.tdiv a b)
    have q4 := Int.tmod_lt_of_pos a hb.1
    have q5 := Int.lt_tmod_of_pos a hb.1
    by_cases h0 : 0 ≤ a
    · have := Int.tmod_nonneg b h0; omega
    · have := tmod_np (b := b) (show a ≤ 0 by omega); omega
  refine zF_ofF pf_fd (Nat.le_of_ble_eq_true rfl) ?_
  show zS zT m_Ma_floorDiv (0, 0) 0 [some (1, a), none, some (1, b), none, none, none] [] mem _
  refine zV_lload_n d_Ma_floorDiv_0 rfl ?_
  refine zV_lload_n d_Ma_floorDiv_1 rfl ?_
  refine zV_ldiv d_Ma_floorDiv_2 ha (by omega) (by omega) ?_
  refine zV_lstore (L' := [some (1, a), none, some (1, b), none, some (1, (Int.tdiv a b)), none]) d_Ma_floorDiv_3 (by decide) rfl ?_
  refine zV_lload_n d_Ma_floorDiv_5 rfl ?_
  refine zV_lload_n d_Ma_floorDiv_6 rfl ?_
  refine zV_lxor (xr64 a b) d_Ma_floorDiv_7 (xr64_v _ _) ?_
  refine zV_lconst0 d_Ma_floorDiv_8 ?_
  refine zV_lcmp_ge d_Ma_floorDiv_9 d_Ma_floorDiv_10 (xr64_i _ _) (by omega) (fun c9 => ?_) (fun c9 => ?_)
  · refine zV_lload d_Ma_floorDiv_27 rfl ?_
    exact zS_lret d_Ma_floorDiv_29 rfl ⟨Nat.zero_le _, Nat.zero_le _⟩ ⟨by rw [t2 (by omega)], rfl⟩
  · refine zV_lload d_Ma_floorDiv_13 rfl ?_
    refine zV_lload_n d_Ma_floorDiv_15 rfl ?_
    refine zV_lmul d_Ma_floorDiv_16 ?_
    refine zV_lload_n d_Ma_floorDiv_17 rfl ?_
    refine zV_lcmp_eq d_Ma_floorDiv_18 d_Ma_floorDiv_19 hl ha (fun c18 => ?_) (fun c18 => ?_)
    · refine zV_lload d_Ma_floorDiv_27 rfl ?_
      exact zS_lret d_Ma_floorDiv_29 rfl ⟨Nat.zero_le _, Nat.zero_le _⟩ ⟨by rw [t2 (by omega)], rfl⟩
    · refine zV_lload d_Ma_floorDiv_22 rfl ?_
      refine zV_lconst1 d_Ma_floorDiv_24 ?_
      refine zV_lsub d_Ma_floorDiv_25 ?_
      exact zS_lret d_Ma_floorDiv_26 rfl ⟨Nat.zero_le _, Nat.zero_le _⟩ ⟨by rw [t1 ⟨by omega, by omega⟩], rfl⟩
theorem s_Ma_floorMod (mem : zMem) (a b : Int) (ha : I32 a) (hb : 0 < b ∧ b < 2147483648) : zF m_Ma_floorMod [(0, a), (0, b)] mem (fun r m => r = some (0, a % b) ∧ m = mem) := by
  have hx := xr32_s ha (⟨by omega, by omega⟩ : I32 b)
  have q4 := Int.tmod_lt_of_pos a hb.1
  have q5 := Int.lt_tmod_of_pos a hb.1
  have q6 : 0 ≤ a → Int.tmod a b = a % b := fun h => Int.tmod_eq_emod_of_nonneg h
  have q7 : a < 0 → Int.tmod a b = 0 → a % b = 0 := fun _ h => Int.emod_eq_zero_of_dvd (Int.dvd_of_tmod_eq_zero h)
  have q8 : a < 0 → Int.tmod a b ≠ 0 → a % b = Int.tmod a b + b := by
    intro h1 h2
    have e1 : a = b * Int.tdiv a b + Int.tmod a b := (Int.mul_tdiv_add_tmod a b).symm
    have e3 := tmod_np (b := b) (show a ≤ 0 by omega)
    have e4 : a % b = (Int.tmod a b + b) % b := by
      rw [Int.add_emod_right]
      conv => lhs; rw [e1]
      rw [Int.add_comm, Int.add_mul_emod_self_left]
    rw [e4, Int.emod_eq_of_lt (by omega) (by omega)]
  have q9 : ¬ (a < 0 ∧ Int.tmod a b ≠ 0) → Int.tmod a b = a % b := by
    intro h
    by_cases h0 : 0 ≤ a
    · exact q6 h0
    · have h1 : Int.tmod a b = 0 := by omega
      rw [q7 (by omega) h1, h1]
  refine zF_ofF pf_fm (Nat.le_of_ble_eq_true rfl) ?_
  show zS zT m_Ma_floorMod (0, 0) 0 [some (0, a), some (0, b), none] [] mem _
  refine zV_iload_n d_Ma_floorMod_0 rfl ?_
  refine zV_iload_n d_Ma_floorMod_1 rfl ?_
  refine zV_irem d_Ma_floorMod_2 ha (by omega) (by omega) ?_
  refine zV_istore_n (L' := [some (0, a), some (0, b), some (0, (Int.tmod a b))]) d_Ma_floorMod_3 (by decide) rfl ?_
  refine zV_iload_n d_Ma_floorMod_4 rfl ?_
  refine zV_iload_n d_Ma_floorMod_5 rfl ?_
  refine zV_ixor (xr32 a b) d_Ma_floorMod_6 (xr32_v _ _) ?_
  refine zV_if_ge d_Ma_floorMod_7 (xr32_i _ _) (fun c7 => ?_) (fun c7 => ?_)
  · refine zV_iload_n d_Ma_floorMod_18 rfl ?_
    exact zS_iret d_Ma_floorMod_19 rfl ⟨Nat.zero_le _, Nat.zero_le _⟩ ⟨by rw [q9 (by omega)], rfl⟩
  · refine zV_iload_n d_Ma_floorMod_10 rfl ?_
    refine zV_if_eq d_Ma_floorMod_11 (by omega) (fun c11 => ?_) (fun c11 => ?_)
    · refine zV_iload_n d_Ma_floorMod_18 rfl ?_
      exact zS_iret d_Ma_floorMod_19 rfl ⟨Nat.zero_le _, Nat.zero_le _⟩ ⟨by rw [q9 (by omega)], rfl⟩
    · refine zV_iload_n d_Ma_floorMod_14 rfl ?_
      refine zV_iload_n d_Ma_floorMod_15 rfl ?_
      refine zV_iadd d_Ma_floorMod_16 ?_
      exact zS_iret d_Ma_floorMod_17 rfl ⟨Nat.zero_le _, Nat.zero_le _⟩ ⟨by rw [q8 (by omega) (by omega)], rfl⟩
abbrev Pt : Type := Int × Int × Int × Int
def rP (mem : zMem) (x : Int) : Pt := (mem x 0, mem x 1, mem x 2, mem x 3)
def okP (p : Pt) : Prop := (-40 ≤ p.1 ∧ p.1 ≤ 40) ∧ (p.2.1 = -1 ∨ p.2.1 = 0 ∨ p.2.1 = 1) ∧ (0 ≤ p.2.2.1 ∧ p.2.2.1 ≤ 500) ∧ (1 ≤ p.2.2.2 ∧ p.2.2.2 ≤ 18)
def ordP (a b : Pt) : Int := sg5 (a.1 * b.2.2.2 - b.1 * a.2.2.2) (a.2.1 * b.2.2.2) a.2.2.1 (-b.2.1 * a.2.2.2) b.2.2.1
def sgP (p : Pt) (a b c : Int) : Int := sg3 (a * (p.1 * p.1 + p.2.1 * p.2.1 * p.2.2.1) + (b * p.1 + c * p.2.2.2) * p.2.2.2) (p.2.1 * (2 * a * p.1 + b * p.2.2.2)) p.2.2.1
def thP (p : Pt) : Int := (1000 * p.1 + (if 0 < p.2.1 then rtD (1000000 * p.2.2.1) else if p.2.1 < 0 then -rtD (1000000 * p.2.2.1) - 1 else 0)) / p.2.2.2
def tn (q : Int) : Int := if q < 0 then -1 else 1
def wrR (mem : zMem) (x w s d q : Int) : zMem := zup (zup (zup (zup mem x 0 (tn q * w)) x 1 (tn q * s)) x 2 d) x 3 (tn q * q)
theorem B5_ok {a b : Pt} (ha : okP a) (hb : okP b) : B5 (a.1 * b.2.2.2 - b.1 * a.2.2.2) (a.2.1 * b.2.2.2) a.2.2.1 (-b.2.1 * a.2.2.2) b.2.2.1 := by
  obtain ⟨a1, a2, a3, a4⟩ := ha
  obtain ⟨b1, b2, b3, b4⟩ := hb
  have h1 := mb a1 (⟨by omega, b4.2⟩ : -18 ≤ b.2.2.2 ∧ b.2.2.2 ≤ 18)
  have h2 := mb b1 (⟨by omega, a4.2⟩ : -18 ≤ a.2.2.2 ∧ a.2.2.2 ≤ 18)
  have h3 := mb (⟨by omega, by omega⟩ : -1 ≤ a.2.1 ∧ a.2.1 ≤ 1) (⟨by omega, b4.2⟩ : -18 ≤ b.2.2.2 ∧ b.2.2.2 ≤ 18)
  have h4 := mb (⟨by omega, by omega⟩ : -1 ≤ -b.2.1 ∧ -b.2.1 ≤ 1) (⟨by omega, a4.2⟩ : -18 ≤ a.2.2.2 ∧ a.2.2.2 ≤ 18)
  unfold B5
  omega
theorem B3_ok {p : Pt} {a b c : Int} (hp : okP p) (ha : -4 ≤ a ∧ a ≤ 4) (hb : -40 ≤ b ∧ b ≤ 40) (hc : -40 ≤ c ∧ c ≤ 40) : B3 (a * (p.1 * p.1 + p.2.1 * p.2.1 * p.2.2.1) + (b * p.1 + c * p.2.2.2) * p.2.2.2) (p.2.1 * (2 * a * p.1 + b * p.2.2.2)) p.2.2.1 := by
  obtain ⟨p1, p2, p3, p4⟩ := hp
  have p4' : -18 ≤ p.2.2.2 ∧ p.2.2.2 ≤ 18 := ⟨by omega, p4.2⟩
  have p2' : -1 ≤ p.2.1 ∧ p.2.1 ≤ 1 := ⟨by omega, by omega⟩
  have p3' : -500 ≤ p.2.2.1 ∧ p.2.2.1 ≤ 500 := ⟨by omega, p3.2⟩
  have h1 := mb p1 p1
  have h2 := mb (mb p2' p2') p3'
  have h3 := mb ha (⟨by omega, by omega⟩ : -2100 ≤ p.1 * p.1 + p.2.1 * p.2.1 * p.2.2.1 ∧ p.1 * p.1 + p.2.1 * p.2.1 * p.2.2.1 ≤ 2100)
  have h4 := mb hb p1
  have h5 := mb hc p4'
  have h6 := mb (⟨by omega, by omega⟩ : -2320 ≤ b * p.1 + c * p.2.2.2 ∧ b * p.1 + c * p.2.2.2 ≤ 2320) p4'
  have h7 := mb (⟨by omega, by omega⟩ : -8 ≤ 2 * a ∧ 2 * a ≤ 8) p1
  have h8 := mb hb p4'
  have h9 := mb p2' (⟨by omega, by omega⟩ : -1040 ≤ 2 * a * p.1 + b * p.2.2.2 ∧ 2 * a * p.1 + b * p.2.2.2 ≤ 1040)
  unfold B3
  omega
theorem rtD_r (n : Int) : 0 ≤ rtD n ∧ rtD n ≤ 65535 := rt_bd 16 0 n (by decide) (by decide) (by decide)
theorem sgP_i (p : Pt) (a b c : Int) : I32 (sgP p a b c) := sg3_i _ _ _
theorem ordP_i (a b : Pt) : I32 (ordP a b) := sg5_i _ _ _ _ _
theorem s_Ro_write (mem : zMem) (x w s d q : Int) (hx : zkd zSH x = (6, 0)) (hq : I64 q) : zF m_Ro_write [(2, x), (1, w), (1, s), (1, d), (1, q)] mem (fun r m => r = none ∧ m = wrR mem x w s d q) := by
  refine zF_of (by decide) (Nat.le_of_ble_eq_true rfl) ?_
  show zS zT m_Ro_write (0, 0) 0 [some (2, x), some (1, w), none, some (1, s), none, some (1, d), none, some (1, q), none, none, none] [] mem _
  refine zV_lload d_Ro_write_0 rfl ?_
  refine zV_lconst0 d_Ro_write_2 ?_
  refine zV_lcmp_ge d_Ro_write_3 d_Ro_write_4 (by omega) (by omega) (fun c3 => ?_) (fun c3 => ?_)
  · refine zV_lconst1 d_Ro_write_13 ?_
    refine zV_lstore (L' := [some (2, x), some (1, w), none, some (1, s), none, some (1, d), none, some (1, q), none, some (1, 1), none]) d_Ro_write_14 (by decide) rfl ?_
    refine zV_aload_n d_Ro_write_16 rfl ?_
    refine zV_lload d_Ro_write_17 rfl ?_
    refine zV_lload_n d_Ro_write_19 rfl ?_
    refine zV_lmul d_Ro_write_20 ?_
    refine zS_putl d_Ro_write_21 f_Ro_7 hx ⟨rfl, rfl⟩ rfl ?_
    refine zV_aload_n d_Ro_write_24 rfl ?_
    refine zV_lload d_Ro_write_25 rfl ?_
    refine zV_lload_n d_Ro_write_27 rfl ?_
    refine zV_lmul d_Ro_write_28 ?_
    refine zS_putl d_Ro_write_29 f_Ro_13 hx ⟨rfl, rfl⟩ rfl ?_
    refine zV_aload_n d_Ro_write_32 rfl ?_
    refine zV_lload d_Ro_write_33 rfl ?_
    refine zS_putl d_Ro_write_35 f_Ro_16 hx ⟨rfl, rfl⟩ rfl ?_
    refine zV_aload_n d_Ro_write_38 rfl ?_
    refine zV_lload d_Ro_write_39 rfl ?_
    refine zV_lload d_Ro_write_41 rfl ?_
    refine zV_lmul d_Ro_write_43 ?_
    refine zS_putl d_Ro_write_44 f_Ro_19 hx ⟨rfl, rfl⟩ rfl ?_
    exact zS_vret d_Ro_write_47 rfl ⟨Nat.zero_le _, Nat.zero_le _⟩ (by refine ⟨rfl, ?_⟩; unfold wrR tn; first | rw [if_pos (by omega)] | rw [if_neg (by omega)])
  · refine zV_ldc2 (a := (-1)) d_Ro_write_7 n_Ro_22 rfl ?_
    refine zV_goto d_Ro_write_10 ?_
    refine zV_lstore (L' := [some (2, x), some (1, w), none, some (1, s), none, some (1, d), none, some (1, q), none, some (1, (-1)), none]) d_Ro_write_14 (by decide) rfl ?_
    refine zV_aload_n d_Ro_write_16 rfl ?_
    refine zV_lload d_Ro_write_17 rfl ?_
    refine zV_lload_n d_Ro_write_19 rfl ?_
    refine zV_lmul d_Ro_write_20 ?_
    refine zS_putl d_Ro_write_21 f_Ro_7 hx ⟨rfl, rfl⟩ rfl ?_
    refine zV_aload_n d_Ro_write_24 rfl ?_
    refine zV_lload d_Ro_write_25 rfl ?_
    refine zV_lload_n d_Ro_write_27 rfl ?_
    refine zV_lmul d_Ro_write_28 ?_
    refine zS_putl d_Ro_write_29 f_Ro_13 hx ⟨rfl, rfl⟩ rfl ?_
    refine zV_aload_n d_Ro_write_32 rfl ?_
    refine zV_lload d_Ro_write_33 rfl ?_
    refine zS_putl d_Ro_write_35 f_Ro_16 hx ⟨rfl, rfl⟩ rfl ?_
    refine zV_aload_n d_Ro_write_38 rfl ?_
    refine zV_lload d_Ro_write_39 rfl ?_
    refine zV_lload d_Ro_write_41 rfl ?_
    refine zV_lmul d_Ro_write_43 ?_
    refine zS_putl d_Ro_write_44 f_Ro_19 hx ⟨rfl, rfl⟩ rfl ?_
    exact zS_vret d_Ro_write_47 rfl ⟨Nat.zero_le _, Nat.zero_le _⟩ (by refine ⟨rfl, ?_⟩; unfold wrR tn; first | rw [if_pos (by omega)] | rw [if_neg (by omega)])
theorem s_Ro_isFraction (mem : zMem) (x : Int) (hx : zkd zSH x = (6, 0)) (hi : I64 (mem x 1)) : zF m_Ro_isFraction [(2, x)] mem (fun r m => r = some (0, zb (mem x 1 = 0)) ∧ m = mem) := by
  refine zF_of (by decide) (Nat.le_of_ble_eq_true rfl) ?_
  show zS zT m_Ro_isFraction (0, 0) 0 [some (2, x)] [] mem _
  refine zV_aload_n d_Ro_isFraction_0 rfl ?_
  refine zS_get d_Ro_isFraction_1 f_Ro_13 hx rfl ?_
  refine zV_lconst0 d_Ro_isFraction_4 ?_
  refine zV_lcmp_ne d_Ro_isFraction_5 d_Ro_isFraction_6 (by omega) (by omega) (fun c5 => ?_) (fun c5 => ?_)
  · refine zV_iconst d_Ro_isFraction_13 ?_
    exact zS_zret d_Ro_isFraction_14 rfl ⟨Nat.zero_le _, Nat.zero_le _⟩ (Or.inl rfl) (by refine ⟨?_, rfl⟩; first | rw [zb_t (by omega)] | rw [zb_f (by omega)])
  · refine zV_iconst d_Ro_isFraction_9 ?_
    refine zV_goto d_Ro_isFraction_10 ?_
    exact zS_zret d_Ro_isFraction_14 rfl ⟨Nat.zero_le _, Nat.zero_le _⟩ (Or.inr rfl) (by refine ⟨?_, rfl⟩; first | rw [zb_t (by omega)] | rw [zb_f (by omega)])
theorem s_Ro_orderTo (mem : zMem) (x y : Int) (hx : zkd zSH x = (6, 0)) (hy : zkd zSH y = (6, 0)) (h1 : okP (rP mem x)) (h2 : okP (rP mem y)) : zF m_Ro_orderTo [(2, x), (2, y)] mem (fun r m => r = some (0, ordP (rP mem x) (rP mem y)) ∧ m = mem) := by
  refine zF_of (by decide) (Nat.le_of_ble_eq_true rfl) ?_
  show zS zT m_Ro_orderTo (0, 0) 0 [some (2, x), some (2, y), none, none] [] mem _
  refine zV_aload_n d_Ro_orderTo_0 rfl ?_
  refine zS_get d_Ro_orderTo_1 f_Ro_7 hx rfl ?_
  refine zV_aload_n d_Ro_orderTo_4 rfl ?_
  refine zS_get d_Ro_orderTo_5 f_Ro_19 hy rfl ?_
  refine zV_lmul d_Ro_orderTo_8 ?_
  refine zV_aload_n d_Ro_orderTo_9 rfl ?_
  refine zS_get d_Ro_orderTo_10 f_Ro_7 hy rfl ?_
  refine zV_aload_n d_Ro_orderTo_13 rfl ?_
  refine zS_get d_Ro_orderTo_14 f_Ro_19 hx rfl ?_
  refine zV_lmul d_Ro_orderTo_17 ?_
  refine zV_lsub d_Ro_orderTo_18 ?_
  refine zV_lstore_n (L' := [some (2, x), some (2, y), some (1, (((mem x 0) * (mem y 3)) - ((mem y 0) * (mem x 3)))), none]) d_Ro_orderTo_19 (by decide) rfl ?_
  refine zV_lload_n d_Ro_orderTo_20 rfl ?_
  refine zV_aload_n d_Ro_orderTo_21 rfl ?_
  refine zS_get d_Ro_orderTo_22 f_Ro_13 hx rfl ?_
  refine zV_aload_n d_Ro_orderTo_25 rfl ?_
  refine zS_get d_Ro_orderTo_26 f_Ro_19 hy rfl ?_
  refine zV_lmul d_Ro_orderTo_29 ?_
  refine zV_aload_n d_Ro_orderTo_30 rfl ?_
  refine zS_get d_Ro_orderTo_31 f_Ro_16 hx rfl ?_
  refine zV_aload_n d_Ro_orderTo_34 rfl ?_
  refine zS_get d_Ro_orderTo_35 f_Ro_13 hy rfl ?_
  refine zV_lneg d_Ro_orderTo_38 ?_
  refine zV_aload_n d_Ro_orderTo_39 rfl ?_
  refine zS_get d_Ro_orderTo_40 f_Ro_19 hx rfl ?_
  refine zV_lmul d_Ro_orderTo_43 ?_
  refine zV_aload_n d_Ro_orderTo_44 rfl ?_
  refine zS_get d_Ro_orderTo_45 f_Ro_16 hy rfl ?_
  refine zS_invsE (mt' := m_Ex_sign5) (avs := [(1, (((mem x 0) * (mem y 3)) - ((mem y 0) * (mem x 3)))), (1, ((mem x 1) * (mem y 3))), (1, (mem x 2)), (1, ((-(mem y 1)) * (mem x 3))), (1, (mem y 2))]) (st := []) d_Ro_orderTo_48 l_Ro_24 k_Ex_sign5 rfl rfl rfl rfl (s_Ex_sign5 mem (((mem x 0) * (mem y 3)) - ((mem y 0) * (mem x 3))) ((mem x 1) * (mem y 3)) (mem x 2) ((-(mem y 1)) * (mem x 3)) (mem y 2) (B5_ok h1 h2)) ?_
  show zS zT m_Ro_orderTo (0, 0) 51 [some (2, x), some (2, y), some (1, (((mem x 0) * (mem y 3)) - ((mem y 0) * (mem x 3)))), none] [(0, (sg5 (((mem x 0) * (mem y 3)) - ((mem y 0) * (mem x 3))) ((mem x 1) * (mem y 3)) (mem x 2) ((-(mem y 1)) * (mem x 3)) (mem y 2)))] mem _
  exact zS_iret d_Ro_orderTo_51 rfl ⟨Nat.zero_le _, Nat.zero_le _⟩ ⟨rfl, rfl⟩
theorem s_Ro_signOf (mem : zMem) (x a b c : Int) (hx : zkd zSH x = (6, 0)) (h1 : okP (rP mem x)) (ha : -4 ≤ a ∧ a ≤ 4) (hb : -40 ≤ b ∧ b ≤ 40) (hc : -40 ≤ c ∧ c ≤ 40) : zF m_Ro_signOf [(2, x), (1, a), (1, b), (1, c)] mem (fun r m => r = some (0, sgP (rP mem x) a b c) ∧ m = mem) := by
  refine zF_of (by decide) (Nat.le_of_ble_eq_true rfl) ?_
  show zS zT m_Ro_signOf (0, 0) 0 [some (2, x), some (1, a), none, some (1, b), none, some (1, c), none, none, none, none, none] [] mem _
  refine zV_lload_n d_Ro_signOf_0 rfl ?_
  refine zV_aload_n d_Ro_signOf_1 rfl ?_
  refine zS_get d_Ro_signOf_2 f_Ro_7 hx rfl ?_
  refine zV_aload_n d_Ro_signOf_5 rfl ?_
  refine zS_get d_Ro_signOf_6 f_Ro_7 hx rfl ?_
  refine zV_lmul d_Ro_signOf_9 ?_
  refine zV_aload_n d_Ro_signOf_10 rfl ?_
  refine zS_get d_Ro_signOf_11 f_Ro_13 hx rfl ?_
  refine zV_aload_n d_Ro_signOf_14 rfl ?_
  refine zS_get d_Ro_signOf_15 f_Ro_13 hx rfl ?_
  refine zV_lmul d_Ro_signOf_18 ?_
  refine zV_aload_n d_Ro_signOf_19 rfl ?_
  refine zS_get d_Ro_signOf_20 f_Ro_16 hx rfl ?_
  refine zV_lmul d_Ro_signOf_23 ?_
  refine zV_ladd d_Ro_signOf_24 ?_
  refine zV_lmul d_Ro_signOf_25 ?_
  refine zV_lload_n d_Ro_signOf_26 rfl ?_
  refine zV_aload_n d_Ro_signOf_27 rfl ?_
  refine zS_get d_Ro_signOf_28 f_Ro_7 hx rfl ?_
  refine zV_lmul d_Ro_signOf_31 ?_
  refine zV_lload d_Ro_signOf_32 rfl ?_
  refine zV_aload_n d_Ro_signOf_34 rfl ?_
  refine zS_get d_Ro_signOf_35 f_Ro_19 hx rfl ?_
  refine zV_lmul d_Ro_signOf_38 ?_
  refine zV_ladd d_Ro_signOf_39 ?_
  refine zV_aload_n d_Ro_signOf_40 rfl ?_
  refine zS_get d_Ro_signOf_41 f_Ro_19 hx rfl ?_
  refine zV_lmul d_Ro_signOf_44 ?_
  refine zV_ladd d_Ro_signOf_45 ?_
  refine zV_lstore (L' := [some (2, x), some (1, a), none, some (1, b), none, some (1, c), none, some (1, ((a * (((mem x 0) * (mem x 0)) + (((mem x 1) * (mem x 1)) * (mem x 2)))) + (((b * (mem x 0)) + (c * (mem x 3))) * (mem x 3)))), none, none, none]) d_Ro_signOf_46 (by decide) rfl ?_
  refine zV_aload_n d_Ro_signOf_48 rfl ?_
  refine zS_get d_Ro_signOf_49 f_Ro_13 hx rfl ?_
  refine zV_ldc2 (a := 2) d_Ro_signOf_52 n_Ro_30 rfl ?_
  refine zV_lload_n d_Ro_signOf_55 rfl ?_
  refine zV_lmul d_Ro_signOf_56 ?_
  refine zV_aload_n d_Ro_signOf_57 rfl ?_
  refine zS_get d_Ro_signOf_58 f_Ro_7 hx rfl ?_
  refine zV_lmul d_Ro_signOf_61 ?_
  refine zV_lload_n d_Ro_signOf_62 rfl ?_
  refine zV_aload_n d_Ro_signOf_63 rfl ?_
  refine zS_get d_Ro_signOf_64 f_Ro_19 hx rfl ?_
  refine zV_lmul d_Ro_signOf_67 ?_
  refine zV_ladd d_Ro_signOf_68 ?_
  refine zV_lmul d_Ro_signOf_69 ?_
  refine zV_lstore (L' := [some (2, x), some (1, a), none, some (1, b), none, some (1, c), none, some (1, ((a * (((mem x 0) * (mem x 0)) + (((mem x 1) * (mem x 1)) * (mem x 2)))) + (((b * (mem x 0)) + (c * (mem x 3))) * (mem x 3)))), none, some (1, ((mem x 1) * (((2 * a) * (mem x 0)) + (b * (mem x 3))))), none]) d_Ro_signOf_70 (by decide) rfl ?_
  refine zV_lload d_Ro_signOf_72 rfl ?_
  refine zV_lload d_Ro_signOf_74 rfl ?_
  refine zV_aload_n d_Ro_signOf_76 rfl ?_
  refine zS_get d_Ro_signOf_77 f_Ro_16 hx rfl ?_
  refine zS_invsE (mt' := m_Ex_sign3) (avs := [(1, ((a * (((mem x 0) * (mem x 0)) + (((mem x 1) * (mem x 1)) * (mem x 2)))) + (((b * (mem x 0)) + (c * (mem x 3))) * (mem x 3)))), (1, ((mem x 1) * (((2 * a) * (mem x 0)) + (b * (mem x 3))))), (1, (mem x 2))]) (st := []) d_Ro_signOf_80 l_Ro_32 k_Ex_sign3 rfl rfl rfl rfl (s_Ex_sign3 mem ((a * (((mem x 0) * (mem x 0)) + (((mem x 1) * (mem x 1)) * (mem x 2)))) + (((b * (mem x 0)) + (c * (mem x 3))) * (mem x 3))) ((mem x 1) * (((2 * a) * (mem x 0)) + (b * (mem x 3)))) (mem x 2) (B3_ok h1 ha hb hc)) ?_
  show zS zT m_Ro_signOf (0, 0) 83 [some (2, x), some (1, a), none, some (1, b), none, some (1, c), none, some (1, ((a * (((mem x 0) * (mem x 0)) + (((mem x 1) * (mem x 1)) * (mem x 2)))) + (((b * (mem x 0)) + (c * (mem x 3))) * (mem x 3)))), none, some (1, ((mem x 1) * (((2 * a) * (mem x 0)) + (b * (mem x 3))))), none] [(0, (sg3 ((a * (((mem x 0) * (mem x 0)) + (((mem x 1) * (mem x 1)) * (mem x 2)))) + (((b * (mem x 0)) + (c * (mem x 3))) * (mem x 3))) ((mem x 1) * (((2 * a) * (mem x 0)) + (b * (mem x 3)))) (mem x 2)))] mem _
  exact zS_iret d_Ro_signOf_83 rfl ⟨Nat.zero_le _, Nat.zero_le _⟩ ⟨rfl, rfl⟩
theorem s_Ro_thousandths (mem : zMem) (x : Int) (hx : zkd zSH x = (6, 0)) (h1 : okP (rP mem x)) : zF m_Ro_thousandths [(2, x)] mem (fun r m => r = some (0, thP (rP mem x)) ∧ m = mem) := by
  obtain ⟨p1, p2, p3, p4⟩ := h1
  simp only [rP] at p1 p2 p3 p4
  have hr := rtD_r (1000000 * mem x 2)
  refine zF_of (by decide) (Nat.le_of_ble_eq_true rfl) ?_
  show zS zT m_Ro_thousandths (0, 0) 0 [some (2, x), none, none, none, none] [] mem _
  refine zV_aload_n d_Ro_thousandths_0 rfl ?_
  refine zS_get d_Ro_thousandths_1 f_Ro_19 hx rfl ?_
  refine zV_lconst1 d_Ro_thousandths_4 ?_
  refine zV_lcmp_ge d_Ro_thousandths_5 d_Ro_thousandths_6 (by omega) (by omega) (fun c5 => ?_) (fun c5 => absurd c5 (by omega))
  refine zV_ldc2 (a := 1000000) d_Ro_thousandths_11 n_Ro_35 rfl ?_
  refine zV_aload_n d_Ro_thousandths_14 rfl ?_
  refine zS_get d_Ro_thousandths_15 f_Ro_16 hx rfl ?_
  refine zV_lmul d_Ro_thousandths_18 ?_
  refine zS_invsE (mt' := m_Ex_rootDown) (avs := [(1, (1000000 * (mem x 2)))]) (st := []) d_Ro_thousandths_19 l_Ro_37 k_Ex_rootDown rfl rfl rfl rfl (s_Ex_rootDown mem (1000000 * (mem x 2)) (by omega)) ?_
  show zS zT m_Ro_thousandths (0, 0) 22 [some (2, x), none, none, none, none] [(1, (rtD (1000000 * (mem x 2))))] mem _
  refine zV_lstore_n (L' := [some (2, x), some (1, (rtD (1000000 * (mem x 2)))), none, none, none]) d_Ro_thousandths_22 (by decide) rfl ?_
  refine zV_aload_n d_Ro_thousandths_23 rfl ?_
  refine zS_get d_Ro_thousandths_24 f_Ro_13 hx rfl ?_
  refine zV_lconst0 d_Ro_thousandths_27 ?_
  refine zV_lcmp_le d_Ro_thousandths_28 d_Ro_thousandths_29 (by omega) (by omega) (fun c28 => ?_) (fun c28 => ?_)
  · refine zV_aload_n d_Ro_thousandths_36 rfl ?_
    refine zS_get d_Ro_thousandths_37 f_Ro_13 hx rfl ?_
    refine zV_lconst0 d_Ro_thousandths_40 ?_
    refine zV_lcmp_ge d_Ro_thousandths_41 d_Ro_thousandths_42 (by omega) (by omega) (fun c41 => ?_) (fun c41 => ?_)
    · refine zV_lconst0 d_Ro_thousandths_52 ?_
      refine zV_lstore_n (L' := [some (2, x), some (1, (rtD (1000000 * (mem x 2)))), none, some (1, 0), none]) d_Ro_thousandths_53 (by decide) rfl ?_
      refine zV_ldc2 (a := 1000) d_Ro_thousandths_54 n_Ro_41 rfl ?_
      refine zV_aload_n d_Ro_thousandths_57 rfl ?_
      refine zS_get d_Ro_thousandths_58 f_Ro_7 hx rfl ?_
      refine zV_lmul d_Ro_thousandths_61 ?_
      refine zV_lload_n d_Ro_thousandths_62 rfl ?_
      refine zV_ladd d_Ro_thousandths_63 ?_
      refine zV_aload_n d_Ro_thousandths_64 rfl ?_
      refine zS_get d_Ro_thousandths_65 f_Ro_19 hx rfl ?_
      refine zS_invsE (mt' := m_Ma_floorDiv) (avs := [(1, ((1000 * (mem x 0)) + 0)), (1, (mem x 3))]) (st := []) d_Ro_thousandths_68 l_Ro_43 k_Ma_floorDiv rfl rfl rfl rfl (s_Ma_floorDiv mem ((1000 * (mem x 0)) + 0) (mem x 3) (by omega) (by omega)) ?_
      show zS zT m_Ro_thousandths (0, 0) 71 [some (2, x), some (1, (rtD (1000000 * (mem x 2)))), none, some (1, 0), none] [(1, (((1000 * (mem x 0)) + 0) / (mem x 3)))] mem _
      refine zV_l2i d_Ro_thousandths_71 ?_
      exact zS_iret d_Ro_thousandths_72 rfl ⟨Nat.zero_le _, Nat.zero_le _⟩ (by refine ⟨?_, rfl⟩; unfold thP rP; simp only; first | rw [if_pos (by omega)] | (rw [if_neg (by omega)]; first | rw [if_pos (by omega)] | rw [if_neg (by omega)]))
    · refine zV_lload_n d_Ro_thousandths_45 rfl ?_
      refine zV_lneg d_Ro_thousandths_46 ?_
      refine zV_lconst1 d_Ro_thousandths_47 ?_
      refine zV_lsub d_Ro_thousandths_48 ?_
      refine zV_goto d_Ro_thousandths_49 ?_
      refine zV_lstore_n (L' := [some (2, x), some (1, (rtD (1000000 * (mem x 2)))), none, some (1, ((-(rtD (1000000 * (mem x 2)))) - 1)), none]) d_Ro_thousandths_53 (by decide) rfl ?_
      refine zV_ldc2 (a := 1000) d_Ro_thousandths_54 n_Ro_41 rfl ?_
      refine zV_aload_n d_Ro_thousandths_57 rfl ?_
      refine zS_get d_Ro_thousandths_58 f_Ro_7 hx rfl ?_
      refine zV_lmul d_Ro_thousandths_61 ?_
      refine zV_lload_n d_Ro_thousandths_62 rfl ?_
      refine zV_ladd d_Ro_thousandths_63 ?_
      refine zV_aload_n d_Ro_thousandths_64 rfl ?_
      refine zS_get d_Ro_thousandths_65 f_Ro_19 hx rfl ?_
      refine zS_invsE (mt' := m_Ma_floorDiv) (avs := [(1, ((1000 * (mem x 0)) + ((-(rtD (1000000 * (mem x 2)))) - 1))), (1, (mem x 3))]) (st := []) d_Ro_thousandths_68 l_Ro_43 k_Ma_floorDiv rfl rfl rfl rfl (s_Ma_floorDiv mem ((1000 * (mem x 0)) + ((-(rtD (1000000 * (mem x 2)))) - 1)) (mem x 3) (by omega) (by omega)) ?_
      show zS zT m_Ro_thousandths (0, 0) 71 [some (2, x), some (1, (rtD (1000000 * (mem x 2)))), none, some (1, ((-(rtD (1000000 * (mem x 2)))) - 1)), none] [(1, (((1000 * (mem x 0)) + ((-(rtD (1000000 * (mem x 2)))) - 1)) / (mem x 3)))] mem _
      refine zV_l2i d_Ro_thousandths_71 ?_
      exact zS_iret d_Ro_thousandths_72 rfl ⟨Nat.zero_le _, Nat.zero_le _⟩ (by refine ⟨?_, rfl⟩; unfold thP rP; simp only; first | rw [if_pos (by omega)] | (rw [if_neg (by omega)]; first | rw [if_pos (by omega)] | rw [if_neg (by omega)]))
  · refine zV_lload_n d_Ro_thousandths_32 rfl ?_
    refine zV_goto d_Ro_thousandths_33 ?_
    refine zV_lstore_n (L' := [some (2, x), some (1, (rtD (1000000 * (mem x 2)))), none, some (1, (rtD (1000000 * (mem x 2)))), none]) d_Ro_thousandths_53 (by decide) rfl ?_
    refine zV_ldc2 (a := 1000) d_Ro_thousandths_54 n_Ro_41 rfl ?_
    refine zV_aload_n d_Ro_thousandths_57 rfl ?_
    refine zS_get d_Ro_thousandths_58 f_Ro_7 hx rfl ?_
    refine zV_lmul d_Ro_thousandths_61 ?_
    refine zV_lload_n d_Ro_thousandths_62 rfl ?_
    refine zV_ladd d_Ro_thousandths_63 ?_
    refine zV_aload_n d_Ro_thousandths_64 rfl ?_
    refine zS_get d_Ro_thousandths_65 f_Ro_19 hx rfl ?_
    refine zS_invsE (mt' := m_Ma_floorDiv) (avs := [(1, ((1000 * (mem x 0)) + (rtD (1000000 * (mem x 2))))), (1, (mem x 3))]) (st := []) d_Ro_thousandths_68 l_Ro_43 k_Ma_floorDiv rfl rfl rfl rfl (s_Ma_floorDiv mem ((1000 * (mem x 0)) + (rtD (1000000 * (mem x 2)))) (mem x 3) (by omega) (by omega)) ?_
    show zS zT m_Ro_thousandths (0, 0) 71 [some (2, x), some (1, (rtD (1000000 * (mem x 2)))), none, some (1, (rtD (1000000 * (mem x 2)))), none] [(1, (((1000 * (mem x 0)) + (rtD (1000000 * (mem x 2)))) / (mem x 3)))] mem _
    refine zV_l2i d_Ro_thousandths_71 ?_
    exact zS_iret d_Ro_thousandths_72 rfl ⟨Nat.zero_le _, Nat.zero_le _⟩ (by refine ⟨?_, rfl⟩; unfold thP rP; simp only; first | rw [if_pos (by omega)] | (rw [if_neg (by omega)]; first | rw [if_pos (by omega)] | rw [if_neg (by omega)]))
def riA (mem : zMem) (v : Int) : zMem := zup (zup (zup mem 79 (mem 78 1) v) 78 1 ((mem 78 1 + 1) % 8)) 78 2 (minI (mem 78 2 + 1) 8)
theorem s_Ri_append (mem : zMem) (v : Int) (h1 : 0 ≤ mem 78 1 ∧ mem 78 1 < 8) (h2 : 0 ≤ mem 78 2 ∧ mem 78 2 ≤ 8) : zF m_Ri_append [(2, 78), (0, v)] mem (fun r m => r = none ∧ m = riA mem v) := by
  refine zF_of (by decide) (Nat.le_of_ble_eq_true rfl) ?_
  show zS zT m_Ri_append (0, 0) 0 [some (2, 78), some (0, v)] [] mem _
  refine zV_aload_n d_Ri_append_0 rfl ?_
  refine zS_getr (r := 79) d_Ri_append_1 f_Ri_9 rfl rfl rfl ?_
  refine zV_aload_n d_Ri_append_4 rfl ?_
  refine zS_get d_Ri_append_5 f_Ri_15 rfl rfl ?_
  refine zV_iload_n d_Ri_append_8 rfl ?_
  refine zS_iast d_Ri_append_9 rfl rfl ⟨by omega, by omega⟩ ?_
  refine zV_aload_n d_Ri_append_10 rfl ?_
  refine zV_aload_n d_Ri_append_11 rfl ?_
  refine zS_get d_Ri_append_12 f_Ri_15 rfl rfl ?_
  rw [show (zup mem 79 (mem 78 1) v) 78 1 = (mem 78 1) from zup_c (by omega)]
  refine zV_iconst d_Ri_append_15 ?_
  refine zV_iadd d_Ri_append_16 ?_
  refine zV_bipush d_Ri_append_17 ?_
  refine zV_irem_p d_Ri_append_19 (by omega) (by omega) ?_
  refine zS_puti d_Ri_append_20 f_Ri_15 rfl ⟨rfl, rfl⟩ rfl ?_
  refine zV_aload_n d_Ri_append_23 rfl ?_
  refine zV_aload_n d_Ri_append_24 rfl ?_
  refine zS_get d_Ri_append_25 f_Ri_19 rfl rfl ?_
  rw [show (zup (zup mem 79 (mem 78 1) v) 78 1 (((mem 78 1) + 1) % 8)) 78 2 = (mem 78 2) from (zup_k (by omega)).trans (zup_c (by omega))]
  refine zV_iconst d_Ri_append_28 ?_
  refine zV_iadd d_Ri_append_29 ?_
  refine zV_bipush d_Ri_append_30 ?_
  refine zS_invsE (mt' := m_Ma_min) (avs := [(0, ((mem 78 2) + 1)), (0, 8)]) (st := [(2, 78)]) d_Ri_append_32 l_Ri_22 k_Ma_min rfl rfl rfl rfl (s_Ma_min (zup (zup mem 79 (mem 78 1) v) 78 1 (((mem 78 1) + 1) % 8)) ((mem 78 2) + 1) 8 (by omega) (by omega)) ?_
  show zS zT m_Ri_append (0, 0) 35 [some (2, 78), some (0, v)] [(0, (minI ((mem 78 2) + 1) 8)), (2, 78)] (zup (zup mem 79 (mem 78 1) v) 78 1 (((mem 78 1) + 1) % 8)) _
  refine zS_puti d_Ri_append_35 f_Ri_19 rfl ⟨rfl, rfl⟩ rfl ?_
  exact zS_vret d_Ri_append_38 rfl ⟨Nat.zero_le _, Nat.zero_le _⟩ ⟨rfl, rfl⟩
theorem s_Ri_back (mem : zMem) (v : Int) (h1 : 0 ≤ mem 78 1 ∧ mem 78 1 < 8) (h2 : 0 ≤ v ∧ v < 8) : zF m_Ri_back [(2, 78), (0, v)] mem (fun r m => r = some (0, mem 79 ((mem 78 1 - 1 - v) % 8)) ∧ m = mem) := by
  refine zF_of (by decide) (Nat.le_of_ble_eq_true rfl) ?_
  show zS zT m_Ri_back (0, 0) 0 [some (2, 78), some (0, v)] [] mem _
  refine zV_aload_n d_Ri_back_0 rfl ?_
  refine zS_getr (r := 79) d_Ri_back_1 f_Ri_9 rfl rfl rfl ?_
  refine zV_aload_n d_Ri_back_4 rfl ?_
  refine zS_get d_Ri_back_5 f_Ri_15 rfl rfl ?_
  refine zV_iconst d_Ri_back_8 ?_
  refine zV_isub d_Ri_back_9 ?_
  refine zV_iload_n d_Ri_back_10 rfl ?_
  refine zV_isub d_Ri_back_11 ?_
  refine zV_bipush d_Ri_back_12 ?_
  refine zS_invsE (mt' := m_Ma_floorMod) (avs := [(0, (((mem 78 1) - 1) - v)), (0, 8)]) (st := [(2, 79)]) d_Ri_back_14 l_Ri_28 k_Ma_floorMod rfl rfl rfl rfl (s_Ma_floorMod mem (((mem 78 1) - 1) - v) 8 (by omega) (by omega)) ?_
  show zS zT m_Ri_back (0, 0) 17 [some (2, 78), some (0, v)] [(0, ((((mem 78 1) - 1) - v) % 8)), (2, 79)] mem _
  refine zS_iald d_Ri_back_17 rfl rfl ⟨by omega, by omega⟩ ?_
  exact zS_iret d_Ri_back_18 rfl ⟨Nat.zero_le _, Nat.zero_le _⟩ ⟨rfl, rfl⟩
theorem s_Di_next (mem : zMem) (v : Int) (h1 : 0 ≤ mem 77 0 ∧ mem 77 0 < 2147483648) (h2 : 1 ≤ v ∧ v ≤ 1000) : zF m_Di_next [(2, 77), (0, v)] mem (fun r m => r = some (0, (1103515245 * mem 77 0 + 12345) % 2147483648 / 65536 % v) ∧ m = zup mem 77 0 ((1103515245 * mem 77 0 + 12345) % 2147483648)) := by
  refine zF_of (by decide) (Nat.le_of_ble_eq_true rfl) ?_
  show zS zT m_Di_next (0, 0) 0 [some (2, 77), some (0, v)] [] mem _
  refine zV_aload_n d_Di_next_0 rfl ?_
  refine zV_ldc2 (a := 1103515245) d_Di_next_1 n_Di_13 rfl ?_
  refine zV_aload_n d_Di_next_4 rfl ?_
  refine zS_get d_Di_next_5 f_Di_7 rfl rfl ?_
  refine zV_lmul d_Di_next_8 ?_
  refine zV_ldc2 (a := 12345) d_Di_next_9 n_Di_15 rfl ?_
  refine zV_ladd d_Di_next_12 ?_
  refine zV_ldc2 (a := 2147483648) d_Di_next_13 n_Di_17 rfl ?_
  refine zV_lrem_p d_Di_next_16 (by omega) (by omega) ?_
  refine zS_putl d_Di_next_17 f_Di_7 rfl ⟨rfl, rfl⟩ rfl ?_
  refine zV_iload_n d_Di_next_20 rfl ?_
  refine zV_iconst d_Di_next_21 ?_
  refine zV_icmp_ge d_Di_next_22 (by omega) (by omega) (fun c22 => ?_) (fun c22 => absurd c22 (by omega))
  refine zV_aload_n d_Di_next_29 rfl ?_
  refine zS_get d_Di_next_30 f_Di_7 rfl rfl ?_
  rw [show (zup mem 77 0 (((1103515245 * (mem 77 0)) + 12345) % 2147483648)) 77 0 = (((1103515245 * (mem 77 0)) + 12345) % 2147483648) from zup_s]
  refine zV_ldc2 (a := 65536) d_Di_next_33 n_Di_19 rfl ?_
  refine zV_ldiv_p d_Di_next_36 (by omega) (by omega) ?_
  refine zV_iload_n d_Di_next_37 rfl ?_
  refine zV_i2l d_Di_next_38 (by omega) ?_
  refine zV_lrem_p d_Di_next_39 (by omega) (by omega) ?_
  refine zV_l2i d_Di_next_40 ?_
  exact zS_iret d_Di_next_41 rfl ⟨Nat.zero_le _, Nat.zero_le _⟩ ⟨rfl, rfl⟩
