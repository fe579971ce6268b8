/-! stacks, built: settling a stack -/
def isF (mem : zMem) (t c : Int) : Prop := mem (t + 4) c = 0 ∧ ∀ o, 0 ≤ o → o < c → mem (t + 4) o = 0 → mem (t + 8) (4 * c + o) ≠ 0
noncomputable def blw (mem : zMem) (t c : Int) : Int := zsm (fun o => zb (0 < mem (t + 8) (4 * c + o) ∧ isF mem t o)) (mem t 3 - 0).toNat 0
noncomputable def nsc (mem : zMem) (t : Int) : Int := zsm (fun o => zb (isF mem t o)) (mem t 3 - 0).toNat 0
theorem isF_fr {m0 m : zMem} {t : Int} (h4 : m (t + 4) = m0 (t + 4)) (h8 : m (t + 8) = m0 (t + 8)) : isF m t = isF m0 t := by
  funext c
  unfold isF
  rw [h4, h8]
theorem blw_fr {m0 m : zMem} {t : Int} (h0 : m t = m0 t) (h4 : m (t + 4) = m0 (t + 4)) (h8 : m (t + 8) = m0 (t + 8)) : blw m t = blw m0 t := by
  funext c
  unfold blw
  rw [h0, isF_fr h4 h8, h8]
theorem okC_fr {m0 m : zMem} {t : Int} (h0 : m t = m0 t) (h4 : m (t + 4) = m0 (t + 4)) (h5 : m (t + 5) = m0 (t + 5)) (h6 : m (t + 6) = m0 (t + 6)) (h7 : m (t + 7) = m0 (t + 7)) (h : okC m0 t) : okC m t := by
  unfold okC
  rw [h0, h4, h5, h6, h7]
  exact h
theorem blw_r {mem : zMem} {t c : Int} (h : okC mem t) : 0 ≤ blw mem t c ∧ blw mem t c ≤ 4 := by
  have := zsm_r (f := fun o => zb (0 < mem (t + 8) (4 * c + o) ∧ isF mem t o)) (fun j => by have := zb_01 (0 < mem (t + 8) (4 * c + j) ∧ isF mem t j); omega) (mem t 3 - 0).toNat 0
  have h1 := h.1
  unfold blw
  omega
theorem nsc_r {mem : zMem} {t : Int} (h : okC mem t) : 0 ≤ nsc mem t ∧ nsc mem t ≤ 4 := by
  have := zsm_r (f := fun o => zb (isF mem t o)) (fun j => by have := zb_01 (isF mem t j); omega) (mem t 3 - 0).toNat 0
  have h1 := h.1
  unfold nsc
  omega
theorem s_St_isFirstOfItsY_l (mem : zMem) (t c : Int) (h : isSt t) (hC : okC mem t) (hS : okG mem t) (hc : 0 ≤ c ∧ c < 4) : ∀ (o : Int), (0 ≤ o ∧ o ≤ c) → (∀ p, 0 ≤ p → p < o → mem (t + 4) p = 0 → mem (t + 8) (4 * c + p) ≠ 0) → zS zT m_St_isFirstOfItsY (0, 0) 2 [some (2, t), some (0, c), some (0, o)] [] mem (zQs (fun r m => r = some (0, zb (isF mem t c)) ∧ m = mem)) := by
  intro o
  obtain ⟨k9, hk9⟩ : ∃ kq : Nat, (c - o).toNat = kq := ⟨_, rfl⟩
  induction k9 using Nat.strongRecOn generalizing o with
  | _ k9 ih =>
    intro i0 i1
    obtain ⟨c1, c2⟩ := id hC
    have go := c2 o i0.1 (by omega)
    have gc := c2 c hc.1 hc.2
    have gs := hS (4 * c + o) (by omega)
    refine zV_iload_n d_St_isFirstOfItsY_2 rfl ?_
    refine zV_iload_n d_St_isFirstOfItsY_3 rfl ?_
    refine zV_icmp_ge d_St_isFirstOfItsY_4 (by omega) (by omega) (fun c4 => ?_) (fun c4 => ?_)
    · refine zV_aload_n d_St_isFirstOfItsY_37 rfl ?_
      refine zS_getr (r := (t + 4)) d_St_isFirstOfItsY_38 f_St_34 (kSt0 h) rfl rfl ?_
      refine zV_iload_n d_St_isFirstOfItsY_41 rfl ?_
      refine zS_zald d_St_isFirstOfItsY_42 (kSt4 h) rfl ⟨by omega, by omega⟩ ?_
      refine zV_if_ne d_St_isFirstOfItsY_43 (by omega) (fun c43 => ?_) (fun c43 => ?_)
      · refine zV_iconst d_St_isFirstOfItsY_50 ?_
        exact zS_zret d_St_isFirstOfItsY_51 rfl ⟨Nat.zero_le _, Nat.zero_le _⟩ (Or.inl rfl) ⟨by rw [zb_f (fun z => by have := z.1; omega)], rfl⟩
      · refine zV_iconst d_St_isFirstOfItsY_46 ?_
        refine zV_goto d_St_isFirstOfItsY_47 ?_
        exact zS_zret d_St_isFirstOfItsY_51 rfl ⟨Nat.zero_le _, Nat.zero_le _⟩ (Or.inr rfl) ⟨by rw [zb_t ⟨by omega, fun p a1 a2 => i1 p a1 (by omega)⟩], rfl⟩
    · refine zV_aload_n d_St_isFirstOfItsY_7 rfl ?_
      refine zS_getr (r := (t + 4)) d_St_isFirstOfItsY_8 f_St_34 (kSt0 h) rfl rfl ?_
      refine zV_iload_n d_St_isFirstOfItsY_11 rfl ?_
      refine zS_zald d_St_isFirstOfItsY_12 (kSt4 h) rfl ⟨by omega, by omega⟩ ?_
      refine zV_if_ne d_St_isFirstOfItsY_13 (by omega) (fun c13 => ?_) (fun c13 => ?_)
      · refine zV_iinc (L' := [some (2, t), some (0, c), some (0, (o + 1))]) d_St_isFirstOfItsY_31 (by decide) rfl rfl ?_
        refine zV_goto d_St_isFirstOfItsY_34 ?_
        refine ih _ (by omega) (o + 1) rfl (by omega) (fun p a1 a2 a3 => ?_)
        by_cases e9 : p = o
        · subst e9; omega
        · exact i1 p a1 (by omega) a3
      · refine zV_aload_n d_St_isFirstOfItsY_16 rfl ?_
        refine zS_getr (r := (t + 8)) d_St_isFirstOfItsY_17 f_St_47 (kSt0 h) rfl rfl ?_
        refine zV_iconst d_St_isFirstOfItsY_20 ?_
        refine zV_iload_n d_St_isFirstOfItsY_21 rfl ?_
        refine zV_imul d_St_isFirstOfItsY_22 ?_
        refine zV_iload_n d_St_isFirstOfItsY_23 rfl ?_
        refine zV_iadd d_St_isFirstOfItsY_24 ?_
        refine zS_iald d_St_isFirstOfItsY_25 (kSt8 h) rfl ⟨by omega, by omega⟩ ?_
        refine zV_if_ne d_St_isFirstOfItsY_26 (by omega) (fun c26 => ?_) (fun c26 => ?_)
        · refine zV_iinc (L' := [some (2, t), some (0, c), some (0, (o + 1))]) d_St_isFirstOfItsY_31 (by decide) rfl rfl ?_
          refine zV_goto d_St_isFirstOfItsY_34 ?_
          refine ih _ (by omega) (o + 1) rfl (by omega) (fun p a1 a2 a3 => ?_)
          by_cases e9 : p = o
          · subst e9; omega
          · exact i1 p a1 (by omega) a3
        · refine zV_iconst d_St_isFirstOfItsY_29 ?_
          exact zS_zret d_St_isFirstOfItsY_30 rfl ⟨Nat.zero_le _, Nat.zero_le _⟩ (Or.inl rfl) ⟨by rw [zb_f (fun z => z.2 o i0.1 (by omega) (by omega) (by omega))], rfl⟩
theorem s_St_isFirstOfItsY (mem : zMem) (t c : Int) (h : isSt t) (hC : okC mem t) (hS : okG mem t) (hc : 0 ≤ c ∧ c < 4) : zF m_St_isFirstOfItsY [(2, t), (0, c)] mem (fun r m => r = some (0, zb (isF mem t c)) ∧ m = mem) := by
  refine zF_of (by decide) (Nat.le_of_ble_eq_true rfl) ?_
  show zS zT m_St_isFirstOfItsY (0, 0) 0 [some (2, t), some (0, c), none] [] mem _
  refine zV_iconst d_St_isFirstOfItsY_0 ?_
  refine zV_istore_n (L' := [some (2, t), some (0, c), some (0, 0)]) d_St_isFirstOfItsY_1 (by decide) rfl ?_
  exact s_St_isFirstOfItsY_l mem t c h hC hS hc 0 (by omega) (fun p a1 a2 => by omega)
theorem s_St_sectionsBelow_l (mem : zMem) (t c : Int) (h : isSt t) (hC : okC mem t) (hS : okG mem t) (hc : 0 ≤ c ∧ c < 4) (q : Int) : ∀ (o : Int) (acc : Int), (0 ≤ o ∧ o ≤ mem t 3) → (acc + zsm (fun o => zb (0 < mem (t + 8) (4 * c + o) ∧ isF mem t o)) (mem t 3 - o).toNat o = q) → zS zT m_St_sectionsBelow (0, 0) 4 [some (2, t), some (0, c), some (0, acc), some (0, o)] [] mem (zQs (fun r m => r = some (0, q) ∧ m = mem)) := by
  intro o acc
  obtain ⟨k9, hk9⟩ : ∃ kq : Nat, (mem t 3 - o).toNat = kq := ⟨_, rfl⟩
  induction k9 using Nat.strongRecOn generalizing o acc with
  | _ k9 ih =>
    intro i0 i1
    obtain ⟨c1, c2⟩ := id hC
    have gs := hS (4 * c + o) (by omega)
    refine zV_iload_n d_St_sectionsBelow_4 rfl ?_
    refine zV_aload_n d_St_sectionsBelow_5 rfl ?_
    refine zS_get d_St_sectionsBelow_6 f_St_24 (kSt0 h) rfl ?_
    refine zV_icmp_ge d_St_sectionsBelow_9 (by omega) (by omega) (fun c9 => ?_) (fun c9 => ?_)
    · refine zV_iload_n d_St_sectionsBelow_42 rfl ?_
      exact zS_iret d_St_sectionsBelow_43 rfl ⟨Nat.zero_le _, Nat.zero_le _⟩ ⟨by rw [← i1, zsm_e (n := mem t 3) (by omega), Int.add_zero], rfl⟩
    · refine zV_aload_n d_St_sectionsBelow_12 rfl ?_
      refine zS_getr (r := (t + 8)) d_St_sectionsBelow_13 f_St_47 (kSt0 h) rfl rfl ?_
      refine zV_iconst d_St_sectionsBelow_16 ?_
      refine zV_iload_n d_St_sectionsBelow_17 rfl ?_
      refine zV_imul d_St_sectionsBelow_18 ?_
      refine zV_iload_n d_St_sectionsBelow_19 rfl ?_
      refine zV_iadd d_St_sectionsBelow_20 ?_
      refine zS_iald d_St_sectionsBelow_21 (kSt8 h) rfl ⟨by omega, by omega⟩ ?_
      refine zV_if_le d_St_sectionsBelow_22 (by omega) (fun c22 => ?_) (fun c22 => ?_)
      · refine zV_iinc (L' := [some (2, t), some (0, c), some (0, acc), some (0, (o + 1))]) d_St_sectionsBelow_36 (by decide) rfl rfl ?_
        refine zV_goto d_St_sectionsBelow_39 ?_
        refine ih _ (by omega) (o + 1) _ rfl (by omega) ?_
        rw [← i1, zsm_s (n := mem t 3) (i := o) (by omega)]
        first | rw [zb_t ⟨by omega, by assumption⟩] | rw [zb_f (fun z => by have := z.1; omega)] | rw [zb_f (fun z => absurd z.2 (by assumption))]
        omega
      · refine zV_aload_n d_St_sectionsBelow_25 rfl ?_
        refine zV_iload_n d_St_sectionsBelow_26 rfl ?_
        refine zS_invvE (mt' := m_St_isFirstOfItsY) (avs := [(0, o)]) (st := []) d_St_sectionsBelow_27 l_St_139 k_St_isFirstOfItsY (kSt0 h) rfl rfl rfl rfl (s_St_isFirstOfItsY mem t o h hC hS (by omega)) ?_
        show zS zT m_St_sectionsBelow (0, 0) 30 [some (2, t), some (0, c), some (0, acc), some (0, o)] [(0, (zb (isF mem t o)))] mem _
        refine zV_ifb_eq d_St_sectionsBelow_30 (fun c30 => ?_) (fun c30 => ?_)
        · refine zV_iinc (L' := [some (2, t), some (0, c), some (0, acc), some (0, (o + 1))]) d_St_sectionsBelow_36 (by decide) rfl rfl ?_
          refine zV_goto d_St_sectionsBelow_39 ?_
          refine ih _ (by omega) (o + 1) _ rfl (by omega) ?_
          rw [← i1, zsm_s (n := mem t 3) (i := o) (by omega)]
          first | rw [zb_t ⟨by omega, by assumption⟩] | rw [zb_f (fun z => by have := z.1; omega)] | rw [zb_f (fun z => absurd z.2 (by assumption))]
          omega
        · refine zV_iinc (L' := [some (2, t), some (0, c), some (0, (acc + 1)), some (0, o)]) d_St_sectionsBelow_33 (by decide) rfl rfl ?_
          refine zV_iinc (L' := [some (2, t), some (0, c), some (0, (acc + 1)), some (0, (o + 1))]) d_St_sectionsBelow_36 (by decide) rfl rfl ?_
          refine zV_goto d_St_sectionsBelow_39 ?_
          refine ih _ (by omega) (o + 1) _ rfl (by omega) ?_
          rw [← i1, zsm_s (n := mem t 3) (i := o) (by omega)]
          first | rw [zb_t ⟨by omega, by assumption⟩] | rw [zb_f (fun z => by have := z.1; omega)] | rw [zb_f (fun z => absurd z.2 (by assumption))]
          omega
theorem s_St_sectionsBelow (mem : zMem) (t c : Int) (h : isSt t) (hC : okC mem t) (hS : okG mem t) (hc : 0 ≤ c ∧ c < 4) : zF m_St_sectionsBelow [(2, t), (0, c)] mem (fun r m => r = some (0, blw mem t c) ∧ m = mem) := by
  refine zF_of (by decide) (Nat.le_of_ble_eq_true rfl) ?_
  show zS zT m_St_sectionsBelow (0, 0) 0 [some (2, t), some (0, c), none, none] [] mem _
  refine zV_iconst d_St_sectionsBelow_0 ?_
  refine zV_istore_n (L' := [some (2, t), some (0, c), some (0, 0), none]) d_St_sectionsBelow_1 (by decide) rfl ?_
  refine zV_iconst d_St_sectionsBelow_2 ?_
  refine zV_istore_n (L' := [some (2, t), some (0, c), some (0, 0), some (0, 0)]) d_St_sectionsBelow_3 (by decide) rfl ?_
  exact s_St_sectionsBelow_l mem t c h hC hS hc _ 0 0 ⟨by omega, hC.1.1⟩ (by rw [Int.zero_add]; rfl)
def stlW (mem : zMem) (t s c : Int) (m : zMem) : Prop := (∀ x, x ≠ t + 3 → m x = mem x) ∧ (∀ k, 0 ≤ k → k < c → m (t + 3) (4 * s + k) = 2 * blw mem t k + 1) ∧ (∀ y, (y < 4 * s ∨ 4 * s + c ≤ y) → m (t + 3) y = mem (t + 3) y)
/-- a stack is settled by the signs at work -/
def stl (mem : zMem) (t s : Int) (m : zMem) : Prop := (∀ x, x ≠ t + 2 → x ≠ t + 3 → m x = mem x) ∧ (∀ k, 0 ≤ k → k < mem t 3 → m (t + 3) (4 * s + k) = 2 * blw mem t k + 1) ∧ (∀ y, (y < 4 * s ∨ 4 * s + mem t 3 ≤ y) → m (t + 3) y = mem (t + 3) y) ∧ m (t + 2) s = 2 * nsc mem t ∧ ∀ y, y ≠ s → m (t + 2) y = mem (t + 2) y
theorem stlW_st {mem m : zMem} {t s c v : Int} (h : stlW mem t s c m) (hc : 0 ≤ c) (hv : v = 2 * blw mem t c + 1) : stlW mem t s (c + 1) (zup m (t + 3) (4 * s + c) v) := by
  obtain ⟨h1, h2, h3⟩ := h
  refine ⟨fun x hx => by rw [zup_a hx]; exact h1 x hx, fun k q1 q2 => ?_, fun y hy => ?_⟩
  · rw [zup_f]
    by_cases e : k = c
    · rw [e, uf_s, hv]
    · rw [uf_n (by omega)]; exact h2 k q1 (by omega)
  · rw [zup_f, uf_n (by omega)]
    exact h3 y (by omega)
theorem stl_e {mem m : zMem} {t s v : Int} (h : stlW mem t s (mem t 3) m) (hv : v = 2 * nsc mem t) : stl mem t s (zup m (t + 2) s v) := by
  obtain ⟨h1, h2, h3⟩ := h
  refine ⟨fun x q1 q2 => by rw [zup_a q1]; exact h1 x q2, fun k q1 q2 => by rw [zup_a (by omega)]; exact h2 k q1 q2, fun y hy => by rw [zup_a (by omega)]; exact h3 y hy, by rw [zup_s, hv], fun y hy => by rw [zup_f, uf_n hy, h1 _ (by omega)]⟩
theorem s_St_settle_l (mem : zMem) (t s : Int) (h : isSt t) (hC0 : okC mem t) (hS0 : okG mem t) (hs : 0 ≤ s ∧ s < 25) : ∀ (c : Int) (acc : Int) (m : zMem), (0 ≤ c ∧ c ≤ mem t 3) → (acc + zsm (fun o => zb (isF mem t o)) (mem t 3 - c).toNat c = nsc mem t) → (stlW mem t s c m) → zS zT m_St_settle (0, 0) 4 [some (2, t), some (0, s), some (0, acc), some (0, c)] [] m (zQs (fun r m => r = none ∧ stl mem t s m)) := by
  intro c acc m
  obtain ⟨k9, hk9⟩ : ∃ kq : Nat, (mem t 3 - c).toNat = kq := ⟨_, rfl⟩
  induction k9 using Nat.strongRecOn generalizing c acc m with
  | _ k9 ih =>
    intro i0 i1 i2
    have e0 : m t = mem t := i2.1 _ (by omega)
    have e4 : m (t + 4) = mem (t + 4) := i2.1 _ (by omega)
    have e8 : m (t + 8) = mem (t + 8) := i2.1 _ (by omega)
    have e03 : m t 3 = mem t 3 := by rw [e0]
    have hC : okC m t := okC_fr e0 e4 (i2.1 _ (by omega)) (i2.1 _ (by omega)) (i2.1 _ (by omega)) hC0
    have hS : okG m t := by unfold okG; rw [e8]; exact hS0
    have eF := congrFun (isF_fr e4 e8) c
    have eB := congrFun (blw_fr e0 e4 e8) c
    have rB := blw_r (c := c) hC
    have rh := hC0.1
    refine zV_iload_n d_St_settle_4 rfl ?_
    refine zV_aload_n d_St_settle_5 rfl ?_
    refine zS_get d_St_settle_6 f_St_24 (kSt0 h) rfl ?_
    refine zV_icmp_ge d_St_settle_9 (by omega) (by omega) (fun c9 => ?_) (fun c9 => ?_)
    · refine zV_aload_n d_St_settle_48 rfl ?_
      refine zS_getr (r := (t + 2)) d_St_settle_49 f_St_27 (kSt0 h) rfl rfl ?_
      refine zV_iload_n d_St_settle_52 rfl ?_
      refine zV_iconst d_St_settle_53 ?_
      refine zV_iload_n d_St_settle_54 rfl ?_
      refine zV_imul d_St_settle_55 ?_
      refine zS_iast d_St_settle_56 (kSt2 h) rfl ⟨by omega, by omega⟩ ?_
      exact zS_vret d_St_settle_57 rfl ⟨Nat.zero_le _, Nat.zero_le _⟩ ⟨rfl, stl_e (by rw [show mem t 3 = c by omega]; exact i2) (by rw [← i1, zsm_e (n := mem t 3) (by omega), Int.add_zero])⟩
    · refine zV_aload_n d_St_settle_12 rfl ?_
      refine zV_iload_n d_St_settle_13 rfl ?_
      refine zS_invvE (mt' := m_St_isFirstOfItsY) (avs := [(0, c)]) (st := []) d_St_settle_14 l_St_139 k_St_isFirstOfItsY (kSt0 h) rfl rfl rfl rfl (s_St_isFirstOfItsY m t c h hC hS (by omega)) ?_
      show zS zT m_St_settle (0, 0) 17 [some (2, t), some (0, s), some (0, acc), some (0, c)] [(0, (zb (isF m t c)))] m _
      refine zV_ifb_eq d_St_settle_17 (fun c17 => ?_) (fun c17 => ?_)
      · refine zV_aload_n d_St_settle_23 rfl ?_
        refine zS_getr (r := (t + 3)) d_St_settle_24 f_St_31 (kSt0 h) rfl rfl ?_
        refine zV_iconst d_St_settle_27 ?_
        refine zV_iload_n d_St_settle_28 rfl ?_
        refine zV_imul d_St_settle_29 ?_
        refine zV_iload_n d_St_settle_30 rfl ?_
        refine zV_iadd d_St_settle_31 ?_
        refine zV_iconst d_St_settle_32 ?_
        refine zV_aload_n d_St_settle_33 rfl ?_
        refine zV_iload_n d_St_settle_34 rfl ?_
        refine zS_invvE (mt' := m_St_sectionsBelow) (avs := [(0, c)]) (st := [(0, 2), (0, ((4 * s) + c)), (2, (t + 3))]) d_St_settle_35 l_St_143 k_St_sectionsBelow (kSt0 h) rfl rfl rfl rfl (s_St_sectionsBelow m t c h hC hS (by omega)) ?_
        show zS zT m_St_settle (0, 0) 38 [some (2, t), some (0, s), some (0, acc), some (0, c)] [(0, (blw m t c)), (0, 2), (0, ((4 * s) + c)), (2, (t + 3))] m _
        refine zV_imul d_St_settle_38 ?_
        refine zV_iconst d_St_settle_39 ?_
        refine zV_iadd d_St_settle_40 ?_
        refine zS_iast d_St_settle_41 (kSt3 h) rfl ⟨by omega, by omega⟩ ?_
        refine zV_iinc (L' := [some (2, t), some (0, s), some (0, acc), some (0, (c + 1))]) d_St_settle_42 (by decide) rfl rfl ?_
        refine zV_goto d_St_settle_45 ?_
        refine ih _ (by omega) (c + 1) _ _ rfl (by omega) ?_ (stlW_st i2 i0.1 (by rw [← eB]))
        rw [← i1, zsm_s (n := mem t 3) (i := c) (by omega)]
        rw [← eF]
        first | rw [zb_t (show isF m t c by assumption)] | rw [zb_f (show ¬ isF m t c by assumption)]
        omega
      · refine zV_iinc (L' := [some (2, t), some (0, s), some (0, (acc + 1)), some (0, c)]) d_St_settle_20 (by decide) rfl rfl ?_
        refine zV_aload_n d_St_settle_23 rfl ?_
        refine zS_getr (r := (t + 3)) d_St_settle_24 f_St_31 (kSt0 h) rfl rfl ?_
        refine zV_iconst d_St_settle_27 ?_
        refine zV_iload_n d_St_settle_28 rfl ?_
        refine zV_imul d_St_settle_29 ?_
        refine zV_iload_n d_St_settle_30 rfl ?_
        refine zV_iadd d_St_settle_31 ?_
        refine zV_iconst d_St_settle_32 ?_
        refine zV_aload_n d_St_settle_33 rfl ?_
        refine zV_iload_n d_St_settle_34 rfl ?_
        refine zS_invvE (mt' := m_St_sectionsBelow) (avs := [(0, c)]) (st := [(0, 2), (0, ((4 * s) + c)), (2, (t + 3))]) d_St_settle_35 l_St_143 k_St_sectionsBelow (kSt0 h) rfl rfl rfl rfl (s_St_sectionsBelow m t c h hC hS (by omega)) ?_
        show zS zT m_St_settle (0, 0) 38 [some (2, t), some (0, s), some (0, (acc + 1)), some (0, c)] [(0, (blw m t c)), (0, 2), (0, ((4 * s) + c)), (2, (t + 3))] m _
        refine zV_imul d_St_settle_38 ?_
        refine zV_iconst d_St_settle_39 ?_
        refine zV_iadd d_St_settle_40 ?_
        refine zS_iast d_St_settle_41 (kSt3 h) rfl ⟨by omega, by omega⟩ ?_
        refine zV_iinc (L' := [some (2, t), some (0, s), some (0, (acc + 1)), some (0, (c + 1))]) d_St_settle_42 (by decide) rfl rfl ?_
        refine zV_goto d_St_settle_45 ?_
        refine ih _ (by omega) (c + 1) _ _ rfl (by omega) ?_ (stlW_st i2 i0.1 (by rw [← eB]))
        rw [← i1, zsm_s (n := mem t 3) (i := c) (by omega)]
        rw [← eF]
        first | rw [zb_t (show isF m t c by assumption)] | rw [zb_f (show ¬ isF m t c by assumption)]
        omega
theorem s_St_settle (mem : zMem) (t s : Int) (h : isSt t) (hC0 : okC mem t) (hS0 : okG mem t) (hs : 0 ≤ s ∧ s < 25) : zF m_St_settle [(2, t), (0, s)] mem (fun r m => r = none ∧ stl mem t s m) := by
  refine zF_of (by decide) (Nat.le_of_ble_eq_true rfl) ?_
  show zS zT m_St_settle (0, 0) 0 [some (2, t), some (0, s), none, none] [] mem _
  refine zV_iconst d_St_settle_0 ?_
  refine zV_istore_n (L' := [some (2, t), some (0, s), some (0, 0), none]) d_St_settle_1 (by decide) rfl ?_
  refine zV_iconst d_St_settle_2 ?_
  refine zV_istore_n (L' := [some (2, t), some (0, s), some (0, 0), some (0, 0)]) d_St_settle_3 (by decide) rfl ?_
  exact s_St_settle_l mem t s h hC0 hS0 hs 0 0 mem ⟨by omega, hC0.1.1⟩ (by rw [Int.zero_add]; rfl) ⟨fun _ _ => rfl, fun k q1 q2 => by omega, fun _ _ => rfl⟩
