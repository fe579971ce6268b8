/-! rows, what is seen, forms -/
theorem s_Rw_has (mem : zMem) (t i : Int) (h : isRw t) (hi : I32 i) (hn : I32 (mem t 1)) : zF m_Rw_has [(2, t), (0, i)] mem (fun r m => r = some (0, zb (0 ≤ i ∧ i < mem t 1)) ∧ m = mem) := by
  refine zF_of (by decide) (Nat.le_of_ble_eq_true rfl) ?_
  show zS zT m_Rw_has (0, 0) 0 [some (2, t), some (0, i)] [] mem _
  refine zV_iload_n d_Rw_has_0 rfl ?_
  refine zV_if_lt d_Rw_has_1 (by omega) (fun c1 => ?_) (fun c1 => ?_)
  · refine zV_iconst d_Rw_has_16 ?_
    exact zS_zret d_Rw_has_17 rfl ⟨Nat.zero_le _, Nat.zero_le _⟩ (Or.inl rfl) (by refine ⟨?_, rfl⟩; first | rw [zb_t (by omega)] | rw [zb_f (by omega)])
  · refine zV_iload_n d_Rw_has_4 rfl ?_
    refine zV_aload_n d_Rw_has_5 rfl ?_
    refine zS_get d_Rw_has_6 f_Rw_17 (kRw0 h) rfl ?_
    refine zV_icmp_ge d_Rw_has_9 (by omega) (by omega) (fun c9 => ?_) (fun c9 => ?_)
    · refine zV_iconst d_Rw_has_16 ?_
      exact zS_zret d_Rw_has_17 rfl ⟨Nat.zero_le _, Nat.zero_le _⟩ (Or.inl rfl) (by refine ⟨?_, rfl⟩; first | rw [zb_t (by omega)] | rw [zb_f (by omega)])
    · refine zV_iconst d_Rw_has_12 ?_
      refine zV_goto d_Rw_has_13 ?_
      exact zS_zret d_Rw_has_17 rfl ⟨Nat.zero_le _, Nat.zero_le _⟩ (Or.inr rfl) (by refine ⟨?_, rfl⟩; first | rw [zb_t (by omega)] | rw [zb_f (by omega)])
def apR (mem : zMem) (t k b c n : Int) : zMem := zup (wrC mem (t + 2 + mem t 1) k b c n) t 1 (mem t 1 + 1)
theorem s_Rw_append (mem : zMem) (t k b c n : Int) (h : isRw t) (hn : 0 ≤ mem t 1 ∧ mem t 1 ≤ 4) : zF m_Rw_append [(2, t), (0, k), (0, b), (0, c), (0, n)] mem (fun r m => (mem t 1 < 4 ∧ r = some (0, 1) ∧ m = apR mem t k b c n) ∨ (mem t 1 = 4 ∧ r = some (0, 0) ∧ m = mem)) := by
  refine zF_of (by decide) (Nat.le_of_ble_eq_true rfl) ?_
  show zS zT m_Rw_append (0, 0) 0 [some (2, t), some (0, k), some (0, b), some (0, c), some (0, n)] [] mem _
  refine zV_aload_n d_Rw_append_0 rfl ?_
  refine zS_get d_Rw_append_1 f_Rw_17 (kRw0 h) rfl ?_
  refine zV_iconst d_Rw_append_4 ?_
  refine zV_icmp_lt d_Rw_append_5 (by omega) (by omega) (fun c5 => ?_) (fun c5 => ?_)
  · refine zV_aload_n d_Rw_append_10 rfl ?_
    refine zS_getr (r := (t + 1)) d_Rw_append_11 f_Rw_11 (kRw0 h) rfl rfl ?_
    refine zV_aload_n d_Rw_append_14 rfl ?_
    refine zS_get d_Rw_append_15 f_Rw_17 (kRw0 h) rfl ?_
    refine zS_ald15 (r := (t + 2 + (mem t 1))) d_Rw_append_18 (kRw1 h) rfl ⟨by omega, by omega⟩ (by omega) ?_
    refine zV_iload_n d_Rw_append_19 rfl ?_
    refine zV_iload_n d_Rw_append_20 rfl ?_
    refine zV_iload_n d_Rw_append_21 rfl ?_
    refine zV_iload d_Rw_append_22 rfl ?_
    refine zS_invvE (mt' := m_Cu_write) (avs := [(0, k), (0, b), (0, c), (0, n)]) (st := []) d_Rw_append_24 l_Rw_22 k_Cu_write (kRwc h (by omega) (by omega)) rfl rfl rfl rfl (s_Cu_write mem (t + 2 + (mem t 1)) k b c n (kRwc h (by omega) (by omega))) ?_
    show zS zT m_Rw_append (0, 0) 27 [some (2, t), some (0, k), some (0, b), some (0, c), some (0, n)] [] (zup (zup (zup (zup mem (t + 2 + (mem t 1)) 0 k) (t + 2 + (mem t 1)) 1 b) (t + 2 + (mem t 1)) 2 c) (t + 2 + (mem t 1)) 3 n) _
    refine zV_aload_n d_Rw_append_27 rfl ?_
    refine zV_dup d_Rw_append_28 (show (2 : Nat) ≠ 1 by decide) ?_
    refine zS_get d_Rw_append_29 f_Rw_17 (kRw0 h) rfl ?_
    rw [show (zup (zup (zup (zup mem (t + 2 + (mem t 1)) 0 k) (t + 2 + (mem t 1)) 1 b) (t + 2 + (mem t 1)) 2 c) (t + 2 + (mem t 1)) 3 n) t 1 = (mem t 1) from (zup_c (by omega)).trans ((zup_c (by omega)).trans ((zup_c (by omega)).trans (zup_c (by omega))))]
    refine zV_iconst d_Rw_append_32 ?_
    refine zV_iadd d_Rw_append_33 ?_
    refine zS_puti d_Rw_append_34 f_Rw_17 (kRw0 h) ⟨rfl, rfl⟩ rfl ?_
    refine zV_iconst d_Rw_append_37 ?_
    exact zS_zret d_Rw_append_38 rfl ⟨Nat.zero_le _, Nat.zero_le _⟩ (Or.inr rfl) (Or.inl ⟨by omega, rfl, rfl⟩)
  · refine zV_iconst d_Rw_append_8 ?_
    exact zS_zret d_Rw_append_9 rfl ⟨Nat.zero_le _, Nat.zero_le _⟩ (Or.inl rfl) (Or.inr ⟨by omega, rfl, rfl⟩)
def cpC (m : zMem) (x y : Int) : zMem := wrC m x (m y 0) (m y 1) (m y 2) (m y 3)
def rmR (mem : zMem) (t i : Int) : zMem := zup (zfo (fun j m => cpC m (t + 2 + j) (t + 2 + (j + 1))) (mem t 1 - 1 - i).toNat i mem) t 1 (mem t 1 - 1)
def cpR (mem : zMem) (t o : Int) : zMem := zup (zfo (fun j m => cpC m (t + 2 + j) (o + 2 + j)) (mem o 1 - 0).toNat 0 mem) t 1 (mem o 1)
theorem wrC_o {mem : zMem} {x k b c n a : Int} (h : a ≠ x) : wrC mem x k b c n a = mem a := by
  funext j
  unfold wrC
  rw [zup_c h, zup_c h, zup_c h, zup_c h]
theorem s_Rw_remove_l (t n i9 : Int) (h : isRw t) (hn : 1 ≤ n ∧ n ≤ 4) (q : zMem) : ∀ (j : Int) (m : zMem), (0 ≤ j) → (j ≤ n - 1) → (m t 1 = n) → (zup (zfo (fun j m => cpC m (t + 2 + j) (t + 2 + (j + 1))) (n - 1 - j).toNat j m) t 1 (n - 1) = q) → zS zT m_Rw_remove (0, 0) 11 [some (2, t), some (0, i9), some (0, j), none] [] m (zQs (fun r m => r = none ∧ m = q)) := by
  intro j m
  obtain ⟨k9, hk9⟩ : ∃ k : Nat, (n - 1 - j).toNat = k := ⟨_, rfl⟩
  induction k9 using Nat.strongRecOn generalizing j m with
  | _ k9 ih =>
    intro i0 i1 i2 i3
    refine zV_iload_n d_Rw_remove_11 rfl ?_
    refine zV_aload_n d_Rw_remove_12 rfl ?_
    refine zS_get d_Rw_remove_13 f_Rw_17 (kRw0 h) rfl ?_
    refine zV_iconst d_Rw_remove_16 ?_
    refine zV_isub d_Rw_remove_17 ?_
    refine zV_icmp_ge d_Rw_remove_18 (by omega) (by omega) (fun c18 => ?_) (fun c18 => ?_)
    · refine zV_aload_n d_Rw_remove_61 rfl ?_
      refine zV_dup d_Rw_remove_62 (show (2 : Nat) ≠ 1 by decide) ?_
      refine zS_get d_Rw_remove_63 f_Rw_17 (kRw0 h) rfl ?_
      refine zV_iconst d_Rw_remove_66 ?_
      refine zV_isub d_Rw_remove_67 ?_
      refine zS_puti d_Rw_remove_68 f_Rw_17 (kRw0 h) ⟨rfl, rfl⟩ rfl ?_
      exact zS_vret d_Rw_remove_71 rfl ⟨Nat.zero_le _, Nat.zero_le _⟩ ⟨rfl, by rw [← i3, zfo_e (n := n - 1) (by omega), i2]⟩
    · refine zV_aload_n d_Rw_remove_21 rfl ?_
      refine zS_getr (r := (t + 1)) d_Rw_remove_22 f_Rw_11 (kRw0 h) rfl rfl ?_
      refine zV_iload_n d_Rw_remove_25 rfl ?_
      refine zV_iconst d_Rw_remove_26 ?_
      refine zV_iadd d_Rw_remove_27 ?_
      refine zS_ald15 (r := (t + 2 + (j + 1))) d_Rw_remove_28 (kRw1 h) rfl ⟨by omega, by omega⟩ (by omega) ?_
      refine zV_astore_n (L' := [some (2, t), some (0, i9), some (0, j), some (2, (t + 2 + (j + 1)))]) d_Rw_remove_29 (by decide) rfl ?_
      refine zV_aload_n d_Rw_remove_30 rfl ?_
      refine zS_getr (r := (t + 1)) d_Rw_remove_31 f_Rw_11 (kRw0 h) rfl rfl ?_
      refine zV_iload_n d_Rw_remove_34 rfl ?_
      refine zS_ald15 (r := (t + 2 + j)) d_Rw_remove_35 (kRw1 h) rfl ⟨by omega, by omega⟩ (by omega) ?_
      refine zV_aload_n d_Rw_remove_36 rfl ?_
      refine zS_get d_Rw_remove_37 f_Rw_30 (kRwc h (by omega) (by omega)) rfl ?_
      refine zV_aload_n d_Rw_remove_40 rfl ?_
      refine zS_get d_Rw_remove_41 f_Rw_33 (kRwc h (by omega) (by omega)) rfl ?_
      refine zV_aload_n d_Rw_remove_44 rfl ?_
      refine zS_get d_Rw_remove_45 f_Rw_36 (kRwc h (by omega) (by omega)) rfl ?_
      refine zV_aload_n d_Rw_remove_48 rfl ?_
      refine zS_get d_Rw_remove_49 f_Rw_39 (kRwc h (by omega) (by omega)) rfl ?_
      refine zS_invvE (mt' := m_Cu_write) (avs := [(0, (m (t + 2 + (j + 1)) 0)), (0, (m (t + 2 + (j + 1)) 1)), (0, (m (t + 2 + (j + 1)) 2)), (0, (m (t + 2 + (j + 1)) 3))]) (st := []) d_Rw_remove_52 l_Rw_22 k_Cu_write (kRwc h (by omega) (by omega)) rfl rfl rfl rfl (s_Cu_write m (t + 2 + j) (m (t + 2 + (j + 1)) 0) (m (t + 2 + (j + 1)) 1) (m (t + 2 + (j + 1)) 2) (m (t + 2 + (j + 1)) 3) (kRwc h (by omega) (by omega))) ?_
      show zS zT m_Rw_remove (0, 0) 55 [some (2, t), some (0, i9), some (0, j), some (2, (t + 2 + (j + 1)))] [] (zup (zup (zup (zup m (t + 2 + j) 0 (m (t + 2 + (j + 1)) 0)) (t + 2 + j) 1 (m (t + 2 + (j + 1)) 1)) (t + 2 + j) 2 (m (t + 2 + (j + 1)) 2)) (t + 2 + j) 3 (m (t + 2 + (j + 1)) 3)) _
      refine zV_iinc (L' := [some (2, t), some (0, i9), some (0, (j + 1)), some (2, (t + 2 + (j + 1)))]) d_Rw_remove_55 (by decide) rfl rfl ?_
      refine zV_goto d_Rw_remove_58 ?_
      refine zV_forget (L' := [some (2, t), some (0, i9), some (0, (j + 1)), none]) (by simp [zle]) ?_
      refine ih _ (by omega) (j + 1) (cpC m (t + 2 + j) (t + 2 + (j + 1))) rfl (by omega) (by omega) ?_ ?_
      · unfold cpC; rw [wrC_o (by omega)]; exact i2
      · rw [← i3, zfo_s (n := n - 1) (i := j) (by omega)]
theorem s_Rw_remove (mem : zMem) (t i : Int) (h : isRw t) (hn : 1 ≤ mem t 1 ∧ mem t 1 ≤ 4) (hi : 0 ≤ i ∧ i < mem t 1) : zF m_Rw_remove [(2, t), (0, i)] mem (fun r m => r = none ∧ m = rmR mem t i) := by
  refine zF_of (by decide) (Nat.le_of_ble_eq_true rfl) ?_
  show zS zT m_Rw_remove (0, 0) 0 [some (2, t), some (0, i), none, none] [] mem _
  refine zV_aload_n d_Rw_remove_0 rfl ?_
  refine zV_iload_n d_Rw_remove_1 rfl ?_
  refine zS_invvE (mt' := m_Rw_has) (avs := [(0, i)]) (st := []) d_Rw_remove_2 l_Rw_26 k_Rw_has (kRw0 h) rfl rfl rfl rfl (s_Rw_has mem t i h (by omega) (by omega)) ?_
  show zS zT m_Rw_remove (0, 0) 5 [some (2, t), some (0, i), none, none] [(0, (zb (0 ≤ i ∧ i < mem t 1)))] mem _
  refine zV_ifb_ne d_Rw_remove_5 (fun c5 => ?_) (fun c5 => absurd c5 (by omega))
  refine zV_iload_n d_Rw_remove_9 rfl ?_
  refine zV_istore_n (L' := [some (2, t), some (0, i), some (0, i), none]) d_Rw_remove_10 (by decide) rfl ?_
  exact s_Rw_remove_l t (mem t 1) i h hn _ i mem (by omega) (by omega) rfl rfl
theorem s_Rw_copy_l (t o n : Int) (h : isRw t) (h2 : isRw o) (hto : t ≠ o) (hn : 0 ≤ n ∧ n ≤ 4) (q : zMem) : ∀ (j : Int) (m : zMem), (0 ≤ j) → (j ≤ n) → (m o 1 = n) → (zup (zfo (fun j m => cpC m (t + 2 + j) (o + 2 + j)) (n - j).toNat j m) t 1 n = q) → zS zT m_Rw_copy (0, 0) 2 [some (2, t), some (2, o), some (0, j), none] [] m (zQs (fun r m => r = none ∧ m = q)) := by
  intro j m
  obtain ⟨k9, hk9⟩ : ∃ k : Nat, (n - j).toNat = k := ⟨_, rfl⟩
  induction k9 using Nat.strongRecOn generalizing j m with
  | _ k9 ih =>
    intro i0 i1 i2 i3
    have hx := h
    have hy := h2
    unfold isRw at hx hy
    refine zV_iload_n d_Rw_copy_2 rfl ?_
    refine zV_aload_n d_Rw_copy_3 rfl ?_
    refine zS_get d_Rw_copy_4 f_Rw_17 (kRw0 h2) rfl ?_
    refine zV_icmp_ge d_Rw_copy_7 (by omega) (by omega) (fun c7 => ?_) (fun c7 => ?_)
    · refine zV_aload_n d_Rw_copy_48 rfl ?_
      refine zV_aload_n d_Rw_copy_49 rfl ?_
      refine zS_get d_Rw_copy_50 f_Rw_17 (kRw0 h2) rfl ?_
      refine zS_puti d_Rw_copy_53 f_Rw_17 (kRw0 h) ⟨rfl, rfl⟩ rfl ?_
      exact zS_vret d_Rw_copy_56 rfl ⟨Nat.zero_le _, Nat.zero_le _⟩ ⟨rfl, by rw [← i3, zfo_e (n := n) (by omega), i2]⟩
    · refine zV_aload_n d_Rw_copy_10 rfl ?_
      refine zS_getr (r := (o + 1)) d_Rw_copy_11 f_Rw_11 (kRw0 h2) rfl rfl ?_
      refine zV_iload_n d_Rw_copy_14 rfl ?_
      refine zS_ald15 (r := (o + 2 + j)) d_Rw_copy_15 (kRw1 h2) rfl ⟨by omega, by omega⟩ (by omega) ?_
      refine zV_astore_n (L' := [some (2, t), some (2, o), some (0, j), some (2, (o + 2 + j))]) d_Rw_copy_16 (by decide) rfl ?_
      refine zV_aload_n d_Rw_copy_17 rfl ?_
      refine zS_getr (r := (t + 1)) d_Rw_copy_18 f_Rw_11 (kRw0 h) rfl rfl ?_
      refine zV_iload_n d_Rw_copy_21 rfl ?_
      refine zS_ald15 (r := (t + 2 + j)) d_Rw_copy_22 (kRw1 h) rfl ⟨by omega, by omega⟩ (by omega) ?_
      refine zV_aload_n d_Rw_copy_23 rfl ?_
      refine zS_get d_Rw_copy_24 f_Rw_30 (kRwc h2 (by omega) (by omega)) rfl ?_
      refine zV_aload_n d_Rw_copy_27 rfl ?_
      refine zS_get d_Rw_copy_28 f_Rw_33 (kRwc h2 (by omega) (by omega)) rfl ?_
      refine zV_aload_n d_Rw_copy_31 rfl ?_
      refine zS_get d_Rw_copy_32 f_Rw_36 (kRwc h2 (by omega) (by omega)) rfl ?_
      refine zV_aload_n d_Rw_copy_35 rfl ?_
      refine zS_get d_Rw_copy_36 f_Rw_39 (kRwc h2 (by omega) (by omega)) rfl ?_
      refine zS_invvE (mt' := m_Cu_write) (avs := [(0, (m (o + 2 + j) 0)), (0, (m (o + 2 + j) 1)), (0, (m (o + 2 + j) 2)), (0, (m (o + 2 + j) 3))]) (st := []) d_Rw_copy_39 l_Rw_22 k_Cu_write (kRwc h (by omega) (by omega)) rfl rfl rfl rfl (s_Cu_write m (t + 2 + j) (m (o + 2 + j) 0) (m (o + 2 + j) 1) (m (o + 2 + j) 2) (m (o + 2 + j) 3) (kRwc h (by omega) (by omega))) ?_
      show zS zT m_Rw_copy (0, 0) 42 [some (2, t), some (2, o), some (0, j), some (2, (o + 2 + j))] [] (zup (zup (zup (zup m (t + 2 + j) 0 (m (o + 2 + j) 0)) (t + 2 + j) 1 (m (o + 2 + j) 1)) (t + 2 + j) 2 (m (o + 2 + j) 2)) (t + 2 + j) 3 (m (o + 2 + j) 3)) _
      refine zV_iinc (L' := [some (2, t), some (2, o), some (0, (j + 1)), some (2, (o + 2 + j))]) d_Rw_copy_42 (by decide) rfl rfl ?_
      refine zV_goto d_Rw_copy_45 ?_
      refine zV_forget (L' := [some (2, t), some (2, o), some (0, (j + 1)), none]) (by simp [zle]) ?_
      refine ih _ (by omega) (j + 1) (cpC m (t + 2 + j) (o + 2 + j)) rfl (by omega) (by omega) ?_ ?_
      · unfold cpC; rw [wrC_o (by omega)]; exact i2
      · rw [← i3, zfo_s (n := n) (i := j) (by omega)]
theorem s_Rw_copy (mem : zMem) (t o : Int) (h : isRw t) (h2 : isRw o) (hto : t ≠ o) (hn : 0 ≤ mem o 1 ∧ mem o 1 ≤ 4) : zF m_Rw_copy [(2, t), (2, o)] mem (fun r m => r = none ∧ m = cpR mem t o) := by
  refine zF_of (by decide) (Nat.le_of_ble_eq_true rfl) ?_
  show zS zT m_Rw_copy (0, 0) 0 [some (2, t), some (2, o), none, none] [] mem _
  refine zV_iconst d_Rw_copy_0 ?_
  refine zV_istore_n (L' := [some (2, t), some (2, o), some (0, 0), none]) d_Rw_copy_1 (by decide) rfl ?_
  exact s_Rw_copy_l t o (mem o 1) h h2 hto hn _ 0 mem (by omega) (by omega) rfl rfl
def apS (mem : zMem) (t k x y w : Int) : zMem := zup (zup (zup (zup (zup mem (t + 1) (mem t 4) k) (t + 2) (mem t 4) x) (t + 3) (mem t 4) y) (t + 4) (mem t 4) w) t 4 (mem t 4 + 1)
theorem s_Se_append (mem : zMem) (t k x y w : Int) (h : isSe t) (hn : 0 ≤ mem t 4 ∧ mem t 4 ≤ 6) : zF m_Se_append [(2, t), (0, k), (0, x), (0, y), (0, w)] mem (fun r m => (mem t 4 < 6 ∧ r = some (0, 1) ∧ m = apS mem t k x y w) ∨ (mem t 4 = 6 ∧ r = some (0, 0) ∧ m = mem)) := by
  refine zF_of (by decide) (Nat.le_of_ble_eq_true rfl) ?_
  show zS zT m_Se_append (0, 0) 0 [some (2, t), some (0, k), some (0, x), some (0, y), some (0, w)] [] mem _
  refine zV_aload_n d_Se_append_0 rfl ?_
  refine zS_get d_Se_append_1 f_Se_24 (kSe0 h) rfl ?_
  refine zV_bipush d_Se_append_4 ?_
  refine zV_icmp_lt d_Se_append_6 (by omega) (by omega) (fun c6 => ?_) (fun c6 => ?_)
  · refine zV_aload_n d_Se_append_11 rfl ?_
    refine zS_getr (r := (t + 1)) d_Se_append_12 f_Se_9 (kSe0 h) rfl rfl ?_
    refine zV_aload_n d_Se_append_15 rfl ?_
    refine zS_get d_Se_append_16 f_Se_24 (kSe0 h) rfl ?_
    refine zV_iload_n d_Se_append_19 rfl ?_
    refine zS_iast d_Se_append_20 (kSe1 h) rfl ⟨by omega, by omega⟩ ?_
    refine zV_aload_n d_Se_append_21 rfl ?_
    refine zS_getr (r := (t + 2)) d_Se_append_22 f_Se_15 (kSe0 h) rfl rfl ?_
    refine zV_aload_n d_Se_append_25 rfl ?_
    refine zS_get d_Se_append_26 f_Se_24 (kSe0 h) rfl ?_
    rw [show (zup mem (t + 1) (mem t 4) k) t 4 = (mem t 4) from zup_c (by omega)]
    refine zV_iload_n d_Se_append_29 rfl ?_
    refine zS_iast d_Se_append_30 (kSe2 h) rfl ⟨by omega, by omega⟩ ?_
    refine zV_aload_n d_Se_append_31 rfl ?_
    refine zS_getr (r := (t + 3)) d_Se_append_32 f_Se_18 (kSe0 h) rfl rfl ?_
    refine zV_aload_n d_Se_append_35 rfl ?_
    refine zS_get d_Se_append_36 f_Se_24 (kSe0 h) rfl ?_
    rw [show (zup (zup mem (t + 1) (mem t 4) k) (t + 2) (mem t 4) x) t 4 = (mem t 4) from (zup_c (by omega)).trans (zup_c (by omega))]
    refine zV_iload_n d_Se_append_39 rfl ?_
    refine zS_iast d_Se_append_40 (kSe3 h) rfl ⟨by omega, by omega⟩ ?_
    refine zV_aload_n d_Se_append_41 rfl ?_
    refine zS_getr (r := (t + 4)) d_Se_append_42 f_Se_21 (kSe0 h) rfl rfl ?_
    refine zV_aload_n d_Se_append_45 rfl ?_
    refine zS_get d_Se_append_46 f_Se_24 (kSe0 h) rfl ?_
    rw [show (zup (zup (zup mem (t + 1) (mem t 4) k) (t + 2) (mem t 4) x) (t + 3) (mem t 4) y) t 4 = (mem t 4) from (zup_c (by omega)).trans ((zup_c (by omega)).trans (zup_c (by omega)))]
    refine zV_iload d_Se_append_49 rfl ?_
    refine zS_iast d_Se_append_51 (kSe4 h) rfl ⟨by omega, by omega⟩ ?_
    refine zV_aload_n d_Se_append_52 rfl ?_
    refine zV_dup d_Se_append_53 (show (2 : Nat) ≠ 1 by decide) ?_
    refine zS_get d_Se_append_54 f_Se_24 (kSe0 h) rfl ?_
    rw [show (zup (zup (zup (zup mem (t + 1) (mem t 4) k) (t + 2) (mem t 4) x) (t + 3) (mem t 4) y) (t + 4) (mem t 4) w) t 4 = (mem t 4) from (zup_c (by omega)).trans ((zup_c (by omega)).trans ((zup_c (by omega)).trans (zup_c (by omega))))]
    refine zV_iconst d_Se_append_57 ?_
    refine zV_iadd d_Se_append_58 ?_
    refine zS_puti d_Se_append_59 f_Se_24 (kSe0 h) ⟨rfl, rfl⟩ rfl ?_
    refine zV_iconst d_Se_append_62 ?_
    exact zS_zret d_Se_append_63 rfl ⟨Nat.zero_le _, Nat.zero_le _⟩ (Or.inr rfl) (Or.inl ⟨by omega, rfl, rfl⟩)
  · refine zV_iconst d_Se_append_9 ?_
    exact zS_zret d_Se_append_10 rfl ⟨Nat.zero_le _, Nat.zero_le _⟩ (Or.inl rfl) (Or.inr ⟨by omega, rfl, rfl⟩)
def cpS1 (m : zMem) (t o j : Int) : zMem := zup (zup (zup (zup m (t + 1) j (m (o + 1) j)) (t + 2) j (m (o + 2) j)) (t + 3) j (m (o + 3) j)) (t + 4) j (m (o + 4) j)
def cpS (mem : zMem) (t o : Int) : zMem := zup (zfo (fun j m => cpS1 m t o j) (mem o 4 - 0).toNat 0 mem) t 4 (mem o 4)
theorem s_Se_copy_l (t o n : Int) (h : isSe t) (h2 : isSe o) (hto : t ≠ o) (hn : 0 ≤ n ∧ n ≤ 6) (q : zMem) : ∀ (j : Int) (m : zMem), (0 ≤ j) → (j ≤ n) → (m o 4 = n) → (zup (zfo (fun j m => cpS1 m t o j) (n - j).toNat j m) t 4 n = q) → zS zT m_Se_copy (0, 0) 2 [some (2, t), some (2, o), some (0, j)] [] m (zQs (fun r m => r = none ∧ m = q)) := by
  intro j m
  obtain ⟨k9, hk9⟩ : ∃ k : Nat, (n - j).toNat = k := ⟨_, rfl⟩
  induction k9 using Nat.strongRecOn generalizing j m with
  | _ k9 ih =>
    intro i0 i1 i2 i3
    have hx := h
    have hy := h2
    unfold isSe at hx hy
    refine zV_iload_n d_Se_copy_2 rfl ?_
    refine zV_aload_n d_Se_copy_3 rfl ?_
    refine zS_get d_Se_copy_4 f_Se_24 (kSe0 h2) rfl ?_
    refine zV_icmp_ge d_Se_copy_7 (by omega) (by omega) (fun c7 => ?_) (fun c7 => ?_)
    · refine zV_aload_n d_Se_copy_64 rfl ?_
      refine zV_aload_n d_Se_copy_65 rfl ?_
      refine zS_get d_Se_copy_66 f_Se_24 (kSe0 h2) rfl ?_
      refine zS_puti d_Se_copy_69 f_Se_24 (kSe0 h) ⟨rfl, rfl⟩ rfl ?_
      exact zS_vret d_Se_copy_72 rfl ⟨Nat.zero_le _, Nat.zero_le _⟩ ⟨rfl, by rw [← i3, zfo_e (n := n) (by omega), i2]⟩
    · refine zV_aload_n d_Se_copy_10 rfl ?_
      refine zS_getr (r := (t + 1)) d_Se_copy_11 f_Se_9 (kSe0 h) rfl rfl ?_
      refine zV_iload_n d_Se_copy_14 rfl ?_
      refine zV_aload_n d_Se_copy_15 rfl ?_
      refine zS_getr (r := (o + 1)) d_Se_copy_16 f_Se_9 (kSe0 h2) rfl rfl ?_
      refine zV_iload_n d_Se_copy_19 rfl ?_
      refine zS_iald d_Se_copy_20 (kSe1 h2) rfl ⟨by omega, by omega⟩ ?_
      refine zS_iast d_Se_copy_21 (kSe1 h) rfl ⟨by omega, by omega⟩ ?_
      refine zV_aload_n d_Se_copy_22 rfl ?_
      refine zS_getr (r := (t + 2)) d_Se_copy_23 f_Se_15 (kSe0 h) rfl rfl ?_
      refine zV_iload_n d_Se_copy_26 rfl ?_
      refine zV_aload_n d_Se_copy_27 rfl ?_
      refine zS_getr (r := (o + 2)) d_Se_copy_28 f_Se_15 (kSe0 h2) rfl rfl ?_
      refine zV_iload_n d_Se_copy_31 rfl ?_
      refine zS_iald d_Se_copy_32 (kSe2 h2) rfl ⟨by omega, by omega⟩ ?_
      rw [show (zup m (t + 1) j (m (o + 1) j)) (o + 2) j = (m (o + 2) j) from zup_c (by omega)]
      refine zS_iast d_Se_copy_33 (kSe2 h) rfl ⟨by omega, by omega⟩ ?_
      refine zV_aload_n d_Se_copy_34 rfl ?_
      refine zS_getr (r := (t + 3)) d_Se_copy_35 f_Se_18 (kSe0 h) rfl rfl ?_
      refine zV_iload_n d_Se_copy_38 rfl ?_
      refine zV_aload_n d_Se_copy_39 rfl ?_
      refine zS_getr (r := (o + 3)) d_Se_copy_40 f_Se_18 (kSe0 h2) rfl rfl ?_
      refine zV_iload_n d_Se_copy_43 rfl ?_
      refine zS_iald d_Se_copy_44 (kSe3 h2) rfl ⟨by omega, by omega⟩ ?_
      rw [show (zup (zup m (t + 1) j (m (o + 1) j)) (t + 2) j (m (o + 2) j)) (o + 3) j = (m (o + 3) j) from (zup_c (by omega)).trans (zup_c (by omega))]
      refine zS_iast d_Se_copy_45 (kSe3 h) rfl ⟨by omega, by omega⟩ ?_
      refine zV_aload_n d_Se_copy_46 rfl ?_
      refine zS_getr (r := (t + 4)) d_Se_copy_47 f_Se_21 (kSe0 h) rfl rfl ?_
      refine zV_iload_n d_Se_copy_50 rfl ?_
      refine zV_aload_n d_Se_copy_51 rfl ?_
      refine zS_getr (r := (o + 4)) d_Se_copy_52 f_Se_21 (kSe0 h2) rfl rfl ?_
      refine zV_iload_n d_Se_copy_55 rfl ?_
      refine zS_iald d_Se_copy_56 (kSe4 h2) rfl ⟨by omega, by omega⟩ ?_
      rw [show (zup (zup (zup m (t + 1) j (m (o + 1) j)) (t + 2) j (m (o + 2) j)) (t + 3) j (m (o + 3) j)) (o + 4) j = (m (o + 4) j) from (zup_c (by omega)).trans ((zup_c (by omega)).trans (zup_c (by omega)))]
      refine zS_iast d_Se_copy_57 (kSe4 h) rfl ⟨by omega, by omega⟩ ?_
      refine zV_iinc (L' := [some (2, t), some (2, o), some (0, (j + 1))]) d_Se_copy_58 (by decide) rfl rfl ?_
      refine zV_goto d_Se_copy_61 ?_
      refine ih _ (by omega) (j + 1) (cpS1 m t o j) rfl (by omega) (by omega) ?_ ?_
      · unfold cpS1; rw [zup_c (by omega), zup_c (by omega), zup_c (by omega), zup_c (by omega)]; exact i2
      · rw [← i3, zfo_s (n := n) (i := j) (by omega)]
theorem s_Se_copy (mem : zMem) (t o : Int) (h : isSe t) (h2 : isSe o) (hto : t ≠ o) (hn : 0 ≤ mem o 4 ∧ mem o 4 ≤ 6) : zF m_Se_copy [(2, t), (2, o)] mem (fun r m => r = none ∧ m = cpS mem t o) := by
  refine zF_of (by decide) (Nat.le_of_ble_eq_true rfl) ?_
  show zS zT m_Se_copy (0, 0) 0 [some (2, t), some (2, o), none] [] mem _
  refine zV_iconst d_Se_copy_0 ?_
  refine zV_istore_n (L' := [some (2, t), some (2, o), some (0, 0)]) d_Se_copy_1 (by decide) rfl ?_
  exact s_Se_copy_l t o (mem o 4) h h2 hto hn _ 0 mem (by omega) (by omega) rfl rfl
/-- all that is seen of number i (n sights, cells a .. a + 3) is so for kind k -/
def cbP (mem : zMem) (a n num k b c : Int) : Prop := ∀ j, 0 ≤ j → j < n → mem a j = num → sdK k b c (mem (a + 1) j) (mem (a + 2) j) = mem (a + 3) j
def okS (mem : zMem) (t : Int) : Prop := (0 ≤ mem t 4 ∧ mem t 4 ≤ 6) ∧ ∀ j, 0 ≤ j → j < mem t 4 → (0 ≤ mem (t + 1) j ∧ mem (t + 1) j ≤ 3) ∧ (-9 ≤ mem (t + 2) j ∧ mem (t + 2) j ≤ 9) ∧ (-9 ≤ mem (t + 3) j ∧ mem (t + 3) j ≤ 9) ∧ (0 ≤ mem (t + 4) j ∧ mem (t + 4) j ≤ 2)
def cbX (mem : zMem) (t num k b c : Int) : Prop := ∀ j, 0 ≤ j → j < mem t 4 → mem (t + 1) j = num → sdK k b c (mem (t + 2) j) (mem (t + 3) j) = mem (t + 4) j
theorem s_Se_canBe_l (mem : zMem) (t k num x : Int) (h : isSe t) (hx : zkd zSH x = (0, 0)) (hs : okS mem t) (hk : 0 ≤ k ∧ k ≤ 4) (hu : 0 ≤ num ∧ num ≤ 3) (h1 : -9 ≤ mem x 1 ∧ mem x 1 ≤ 9) (h2 : -9 ≤ mem x 2 ∧ mem x 2 ≤ 9) : ∀ (j : Int), (0 ≤ j) → (j ≤ mem t 4) → (∀ i, 0 ≤ i → i < j → mem (t + 1) i = num → sdK k (mem x 1) (mem x 2) (mem (t + 2) i) (mem (t + 3) i) = mem (t + 4) i) → zS zT m_Se_canBe (0, 0) 3 [some (2, t), some (0, k), some (0, num), some (2, x), some (0, j)] [] mem (zQs (fun r m => r = some (0, zb (cbX mem t num k (mem x 1) (mem x 2))) ∧ m = mem)) := by
  intro j
  obtain ⟨k9, hk9⟩ : ∃ k : Nat, (mem t 4 - j).toNat = k := ⟨_, rfl⟩
  induction k9 using Nat.strongRecOn generalizing j with
  | _ k9 ih =>
    intro i0 i1 i2
    obtain ⟨hs1, hs2⟩ := id hs
    have hs3 := hs2 j i0
    refine zV_iload d_Se_canBe_3 rfl ?_
    refine zV_aload_n d_Se_canBe_5 rfl ?_
    refine zS_get d_Se_canBe_6 f_Se_24 (kSe0 h) rfl ?_
    refine zV_icmp_ge d_Se_canBe_9 (by omega) (by omega) (fun c9 => ?_) (fun c9 => ?_)
    · refine zV_iconst d_Se_canBe_60 ?_
      exact zS_zret d_Se_canBe_61 rfl ⟨Nat.zero_le _, Nat.zero_le _⟩ (Or.inr rfl) ⟨by rw [zb_t (show cbX mem t num k (mem x 1) (mem x 2) from fun i a1 a2 a3 => i2 i a1 (by omega) a3)], rfl⟩
    · refine zV_aload_n d_Se_canBe_12 rfl ?_
      refine zS_getr (r := (t + 1)) d_Se_canBe_13 f_Se_9 (kSe0 h) rfl rfl ?_
      refine zV_iload d_Se_canBe_16 rfl ?_
      refine zS_iald d_Se_canBe_18 (kSe1 h) rfl ⟨by omega, by omega⟩ ?_
      refine zV_iload_n d_Se_canBe_19 rfl ?_
      refine zV_icmp_ne d_Se_canBe_20 (by omega) (by omega) (fun c20 => ?_) (fun c20 => ?_)
      · refine zV_iinc (L' := [some (2, t), some (0, k), some (0, num), some (2, x), some (0, (j + 1))]) d_Se_canBe_54 (by decide) rfl rfl ?_
        refine zV_goto d_Se_canBe_57 ?_
        refine ih _ (by omega) _ rfl (by omega) (by omega) (fun i a1 a2 a3 => ?_)
        by_cases e9 : i = j
        · subst e9; first | exact absurd a3 c20 | assumption
        · exact i2 i a1 (by omega) a3
      · refine zV_aload_n d_Se_canBe_23 rfl ?_
        refine zV_iload_n d_Se_canBe_24 rfl ?_
        refine zV_aload_n d_Se_canBe_25 rfl ?_
        refine zS_getr (r := (t + 2)) d_Se_canBe_26 f_Se_15 (kSe0 h) rfl rfl ?_
        refine zV_iload d_Se_canBe_29 rfl ?_
        refine zS_iald d_Se_canBe_31 (kSe2 h) rfl ⟨by omega, by omega⟩ ?_
        refine zV_aload_n d_Se_canBe_32 rfl ?_
        refine zS_getr (r := (t + 3)) d_Se_canBe_33 f_Se_18 (kSe0 h) rfl rfl ?_
        refine zV_iload d_Se_canBe_36 rfl ?_
        refine zS_iald d_Se_canBe_38 (kSe3 h) rfl ⟨by omega, by omega⟩ ?_
        refine zS_invvE (mt' := m_Cu_sideAs) (avs := [(0, k), (0, (mem (t + 2) j)), (0, (mem (t + 3) j))]) (st := []) d_Se_canBe_39 l_Se_32 k_Cu_sideAs hx rfl rfl rfl rfl (s_Cu_sideAs mem x k (mem (t + 2) j) (mem (t + 3) j) hx (by omega) (by omega) (by omega) (by omega) (by omega)) ?_
        show zS zT m_Se_canBe (0, 0) 42 [some (2, t), some (0, k), some (0, num), some (2, x), some (0, j)] [(0, (sdK k (mem x 1) (mem x 2) (mem (t + 2) j) (mem (t + 3) j)))] mem _
        refine zV_aload_n d_Se_canBe_42 rfl ?_
        refine zS_getr (r := (t + 4)) d_Se_canBe_43 f_Se_21 (kSe0 h) rfl rfl ?_
        refine zV_iload d_Se_canBe_46 rfl ?_
        refine zS_iald d_Se_canBe_48 (kSe4 h) rfl ⟨by omega, by omega⟩ ?_
        refine zV_icmp_eq d_Se_canBe_49 (sdK_i _ _ _ _ _) (by omega) (fun c49 => ?_) (fun c49 => ?_)
        · refine zV_iinc (L' := [some (2, t), some (0, k), some (0, num), some (2, x), some (0, (j + 1))]) d_Se_canBe_54 (by decide) rfl rfl ?_
          refine zV_goto d_Se_canBe_57 ?_
          refine ih _ (by omega) _ rfl (by omega) (by omega) (fun i a1 a2 a3 => ?_)
          by_cases e9 : i = j
          · subst e9; first | exact absurd a3 c20 | assumption
          · exact i2 i a1 (by omega) a3
        · refine zV_iconst d_Se_canBe_52 ?_
          exact zS_zret d_Se_canBe_53 rfl ⟨Nat.zero_le _, Nat.zero_le _⟩ (Or.inl rfl) ⟨by rw [zb_f (show ¬ cbX mem t num k (mem x 1) (mem x 2) from fun z => c49 (z j i0 (by omega) c20))], rfl⟩
theorem s_Se_canBe (mem : zMem) (t k num x : Int) (h : isSe t) (hx : zkd zSH x = (0, 0)) (hs : okS mem t) (hk : 0 ≤ k ∧ k ≤ 4) (hu : 0 ≤ num ∧ num ≤ 3) (h1 : -9 ≤ mem x 1 ∧ mem x 1 ≤ 9) (h2 : -9 ≤ mem x 2 ∧ mem x 2 ≤ 9) : zF m_Se_canBe [(2, t), (0, k), (0, num), (2, x)] mem (fun r m => r = some (0, zb (cbX mem t num k (mem x 1) (mem x 2))) ∧ m = mem) := by
  obtain ⟨hs1, hs2⟩ := id hs
  refine zF_of (by decide) (Nat.le_of_ble_eq_true rfl) ?_
  show zS zT m_Se_canBe (0, 0) 0 [some (2, t), some (0, k), some (0, num), some (2, x), none] [] mem _
  refine zV_iconst d_Se_canBe_0 ?_
  refine zV_istore (L' := [some (2, t), some (0, k), some (0, num), some (2, x), some (0, 0)]) d_Se_canBe_1 (by decide) rfl ?_
  exact s_Se_canBe_l mem t k num x h hx hs hk hu h1 h2 0 (by omega) (by omega) (fun i a1 a2 => by omega)
