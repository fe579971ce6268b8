/-! sorts, what to ask; forms -/
def pw (i : Int) : Int := if i = 0 then 1 else if i = 1 then 2 else if i = 2 then 4 else if i = 3 then 8 else if i = 4 then 16 else 32
theorem five {i : Int} (h0 : 0 ≤ i) (h1 : i < 5) : i = 0 ∨ i = 1 ∨ i = 2 ∨ i = 3 ∨ i = 4 := by omega
theorem pw_s {i : Int} (h0 : 0 ≤ i) (h1 : i < 5) : pw (i + 1) = 2 * pw i ∧ 1 ≤ pw i ∧ pw i ≤ 16 := by
  rcases five h0 h1 with rfl | rfl | rfl | rfl | rfl <;> decide
theorem shl_pw {i : Int} (h0 : 0 ≤ i) (h1 : i < 5) : Int32.ofInt 1 <<< (Int32.ofInt i &&& 31) = Int32.ofInt (pw i) := by
  rcases five h0 h1 with rfl | rfl | rfl | rfl | rfl <;> decide
theorem or_pwN : ∀ (i : Fin 5) (a : Fin 16), (a.val : Int) < pw (i.val : Int) → Int32.ofInt (a.val : Int) ||| Int32.ofInt (pw (i.val : Int)) = Int32.ofInt ((a.val : Int) + pw (i.val : Int)) := by decide +kernel
theorem or_pw {i a : Int} (h0 : 0 ≤ i) (h1 : i < 5) (a0 : 0 ≤ a) (a1 : a < pw i) : Int32.ofInt a ||| Int32.ofInt (pw i) = Int32.ofInt (a + pw i) := by
  have h2 := (pw_s h0 h1).2.2
  have h := or_pwN ⟨i.toNat, by omega⟩ ⟨a.toNat, by omega⟩
  have e1 : ((i.toNat : Nat) : Int) = i := by omega
  have e2 : ((a.toNat : Nat) : Int) = a := by omega
  simp only [e1, e2] at h
  exact h a1
theorem shr_pwN : ∀ (i : Fin 5) (a : Fin 32), Int32.ofInt (a.val : Int) >>> (Int32.ofInt (i.val : Int) &&& 31) = Int32.ofInt ((a.val : Int) / pw (i.val : Int)) := by decide +kernel
theorem shr_pw {i a : Int} (h0 : 0 ≤ i) (h1 : i < 5) (a0 : 0 ≤ a) (a1 : a < 32) : Int32.ofInt a >>> (Int32.ofInt i &&& 31) = Int32.ofInt (a / pw i) := by
  have h := shr_pwN ⟨i.toNat, by omega⟩ ⟨a.toNat, by omega⟩
  have e1 : ((i.toNat : Nat) : Int) = i := by omega
  have e2 : ((a.toNat : Nat) : Int) = a := by omega
  simp only [e1, e2] at h
  exact h
noncomputable def srt (p : Int → Prop) : Int := zsm (fun k => zb (p k) * pw k) (5 - 0 : Int).toNat 0
theorem srt_r (p : Int → Prop) : 0 ≤ srt p ∧ srt p < 32 := by
  have e : srt p = zb (p 0) * 1 + (zb (p (0 + 1)) * 2 + (zb (p (0 + 1 + 1)) * 4 + (zb (p (0 + 1 + 1 + 1)) * 8 + (zb (p (0 + 1 + 1 + 1 + 1)) * 16 + 0)))) := rfl
  have h0 := zb_01 (p 0)
  have h1 := zb_01 (p (0 + 1))
  have h2 := zb_01 (p (0 + 1 + 1))
  have h3 := zb_01 (p (0 + 1 + 1 + 1))
  have h4 := zb_01 (p (0 + 1 + 1 + 1 + 1))
  rw [e]
  omega
theorem s_Se_sortsOf_l (mem : zMem) (t num x : Int) (h : isSe t) (hx : zkd zSH x = (0, 0)) (hs : okS mem t) (hu : 0 ≤ num ∧ num ≤ 3) (h1 : -9 ≤ mem x 1 ∧ mem x 1 ≤ 9) (h2 : -9 ≤ mem x 2 ∧ mem x 2 ≤ 9) (q : Int) : ∀ (i : Int) (acc : Int), (0 ≤ i) → (i ≤ 5) → (0 ≤ acc) → (acc < pw i) → (acc + zsm (fun k => zb (cbX mem t num k (mem x 1) (mem x 2)) * pw k) (5 - i).toNat i = q) → zS zT m_Se_sortsOf (0, 0) 5 [some (2, t), some (0, num), some (2, x), some (0, acc), some (0, i)] [] mem (zQs (fun r m => r = some (0, q) ∧ m = mem)) := by
  intro i acc
  obtain ⟨k9, hk9⟩ : ∃ k : Nat, (5 - i).toNat = k := ⟨_, rfl⟩
  induction k9 using Nat.strongRecOn generalizing i acc with
  | _ k9 ih =>
    intro i0 i1 i2 i3 i4
    refine zV_iload d_Se_sortsOf_5 rfl ?_
    refine zV_iconst d_Se_sortsOf_7 ?_
    refine zV_icmp_ge d_Se_sortsOf_8 (by omega) (by omega) (fun c8 => ?_) (fun c8 => ?_)
    · refine zV_iload_n d_Se_sortsOf_35 rfl ?_
      exact zS_iret d_Se_sortsOf_36 rfl ⟨Nat.zero_le _, Nat.zero_le _⟩ ⟨by rw [← i4, zsm_e (n := 5) (by omega), Int.add_zero], rfl⟩
    · refine zV_aload_n d_Se_sortsOf_11 rfl ?_
      refine zV_iload d_Se_sortsOf_12 rfl ?_
      refine zV_iload_n d_Se_sortsOf_14 rfl ?_
      refine zV_aload_n d_Se_sortsOf_15 rfl ?_
      refine zS_invvE (mt' := m_Se_canBe) (avs := [(0, i), (0, num), (2, x)]) (st := []) d_Se_sortsOf_16 l_Se_28 k_Se_canBe (kSe0 h) rfl rfl rfl rfl (s_Se_canBe mem t i num x h hx hs (by omega) hu h1 h2) ?_
      show zS zT m_Se_sortsOf (0, 0) 19 [some (2, t), some (0, num), some (2, x), some (0, acc), some (0, i)] [(0, (zb (cbX mem t num i (mem x 1) (mem x 2))))] mem _
      refine zV_ifb_eq d_Se_sortsOf_19 (fun c19 => ?_) (fun c19 => ?_)
      · refine zV_iinc (L' := [some (2, t), some (0, num), some (2, x), some (0, acc), some (0, (i + 1))]) d_Se_sortsOf_29 (by decide) rfl rfl ?_
        refine zV_goto d_Se_sortsOf_32 ?_
        have hp := pw_s i0 (by omega)
        refine ih _ (by omega) _ _ rfl (by omega) (by omega) (by omega) (by omega) ?_
        rw [← i4, zsm_s (n := 5) (i := i) (by omega)]
        first | rw [zb_t c19] | rw [zb_f c19]
        omega
      · refine zV_iload_n d_Se_sortsOf_22 rfl ?_
        refine zV_iconst d_Se_sortsOf_23 ?_
        refine zV_iload d_Se_sortsOf_24 rfl ?_
        refine zV_ishl (pw i) d_Se_sortsOf_26 (shl_pw (by omega) (by omega)) ?_
        refine zV_ior (acc + (pw i)) d_Se_sortsOf_27 (or_pw (by omega) (by omega) (by omega) (by omega)) ?_
        refine zV_istore_n (L' := [some (2, t), some (0, num), some (2, x), some (0, (acc + (pw i))), some (0, i)]) d_Se_sortsOf_28 (by decide) rfl ?_
        refine zV_iinc (L' := [some (2, t), some (0, num), some (2, x), some (0, (acc + (pw i))), some (0, (i + 1))]) d_Se_sortsOf_29 (by decide) rfl rfl ?_
        refine zV_goto d_Se_sortsOf_32 ?_
        have hp := pw_s i0 (by omega)
        refine ih _ (by omega) _ _ rfl (by omega) (by omega) (by omega) (by omega) ?_
        rw [← i4, zsm_s (n := 5) (i := i) (by omega)]
        first | rw [zb_t c19] | rw [zb_f c19]
        omega
theorem s_Se_sortsOf (mem : zMem) (t num x : Int) (h : isSe t) (hx : zkd zSH x = (0, 0)) (hs : okS mem t) (hu : 0 ≤ num ∧ num ≤ 3) (h1 : -9 ≤ mem x 1 ∧ mem x 1 ≤ 9) (h2 : -9 ≤ mem x 2 ∧ mem x 2 ≤ 9) : zF m_Se_sortsOf [(2, t), (0, num), (2, x)] mem (fun r m => r = some (0, srt (fun k => cbX mem t num k (mem x 1) (mem x 2))) ∧ m = mem) := by
  refine zF_of (by decide) (Nat.le_of_ble_eq_true rfl) ?_
  show zS zT m_Se_sortsOf (0, 0) 0 [some (2, t), some (0, num), some (2, x), none, none] [] mem _
  refine zV_iconst d_Se_sortsOf_0 ?_
  refine zV_istore_n (L' := [some (2, t), some (0, num), some (2, x), some (0, 0), none]) d_Se_sortsOf_1 (by decide) rfl ?_
  refine zV_iconst d_Se_sortsOf_2 ?_
  refine zV_istore (L' := [some (2, t), some (0, num), some (2, x), some (0, 0), some (0, 0)]) d_Se_sortsOf_3 (by decide) rfl ?_
  exact s_Se_sortsOf_l mem t num x h hx hs hu h1 h2 _ 0 0 (by omega) (by omega) (by omega) (by decide) (by rw [Int.zero_add]; rfl)
def lwF (a b c x h k : Int) : Int := if a / pw k % 2 = 1 ∧ sdK k b c x 0 = h then 1 else 0
theorem lwF_v (a b c x h k : Int) : (a / pw k % 2 = 1 ∧ sdK k b c x 0 = h → lwF a b c x h k = 1) ∧ (¬ (a / pw k % 2 = 1 ∧ sdK k b c x 0 = h) → lwF a b c x h k = 0) := ⟨fun q => if_pos q, fun q => if_neg q⟩
def lwQ (a b c x h : Int) : Int := zsm (lwF a b c x h) (5 - 0 : Int).toNat 0
def lw (a b c x : Int) : Int := maxI (lwQ a b c x 0) (maxI (lwQ a b c x 1) (lwQ a b c x 2))
theorem maxI_r {a b A : Int} (ha : 0 ≤ a ∧ a ≤ A) (hb : 0 ≤ b ∧ b ≤ A) : 0 ≤ maxI a b ∧ maxI a b ≤ A := by unfold maxI; split <;> omega
theorem zsm_r {f : Int → Int} (hf : ∀ j, 0 ≤ f j ∧ f j ≤ 1) : ∀ (k : Nat) (i : Int), 0 ≤ zsm f k i ∧ zsm f k i ≤ k
  | 0, _ => by simp [zsm]
  | k + 1, i => by
    have h1 := zsm_r hf k (i + 1)
    have h2 := hf i
    unfold zsm
    omega
theorem lwQ_r (a b c x h : Int) : 0 ≤ lwQ a b c x h ∧ lwQ a b c x h ≤ 5 := by
  have := zsm_r (f := lwF a b c x h) (fun j => by have := lwF_v a b c x h j; omega) (5 - 0 : Int).toNat 0
  unfold lwQ
  omega
theorem lw_r (a b c x : Int) : 0 ≤ lw a b c x ∧ lw a b c x ≤ 5 := maxI_r (lwQ_r a b c x 0) (maxI_r (lwQ_r a b c x 1) (lwQ_r a b c x 2))
theorem mod2 (z : Int) : z % (2 ^ 1 : Int) = z % 2 := rfl
theorem s_Se_leftAtWorst_l (mem : zMem) (a x px : Int) (hx : zkd zSH x = (0, 0)) (ha : 0 ≤ a ∧ a < 32) (hp : -9 ≤ px ∧ px ≤ 9) (h1 : -9 ≤ mem x 1 ∧ mem x 1 ≤ 9) (h2 : -9 ≤ mem x 2 ∧ mem x 2 ≤ 9) (q0 q1 q2 : Int) : ∀ (i : Int) (be : Int) (on : Int) (ab : Int), (0 ≤ i) → (i ≤ 5) → (0 ≤ be ∧ be ≤ i) → (0 ≤ on ∧ on ≤ i) → (0 ≤ ab ∧ ab ≤ i) → (be + zsm (lwF a (mem x 1) (mem x 2) px 0) (5 - i).toNat i = q0) → (on + zsm (lwF a (mem x 1) (mem x 2) px 1) (5 - i).toNat i = q1) → (ab + zsm (lwF a (mem x 1) (mem x 2) px 2) (5 - i).toNat i = q2) → zS zT m_Se_leftAtWorst (0, 0) 11 [some (0, a), some (2, x), some (0, px), some (0, be), some (0, on), some (0, ab), some (0, i), none] [] mem (zQs (fun r m => r = some (0, maxI q0 (maxI q1 q2)) ∧ m = mem)) := by
  intro i be on ab
  obtain ⟨k9, hk9⟩ : ∃ k : Nat, (5 - i).toNat = k := ⟨_, rfl⟩
  induction k9 using Nat.strongRecOn generalizing i be on ab with
  | _ k9 ih =>
    intro i0 i1 i2 i3 i4 i5 i6 i7
    refine zV_iload d_Se_leftAtWorst_11 rfl ?_
    refine zV_iconst d_Se_leftAtWorst_13 ?_
    refine zV_icmp_ge d_Se_leftAtWorst_14 (by omega) (by omega) (fun c14 => ?_) (fun c14 => ?_)
    · refine zV_iload_n d_Se_leftAtWorst_88 rfl ?_
      refine zV_iload d_Se_leftAtWorst_89 rfl ?_
      refine zV_iload d_Se_leftAtWorst_91 rfl ?_
      refine zS_invsE (mt' := m_Ma_max) (avs := [(0, on), (0, ab)]) (st := [(0, be)]) d_Se_leftAtWorst_93 l_Se_42 k_Ma_max rfl rfl rfl rfl (s_Ma_max mem on ab (by omega) (by omega)) ?_
      show zS zT m_Se_leftAtWorst (0, 0) 96 [some (0, a), some (2, x), some (0, px), some (0, be), some (0, on), some (0, ab), some (0, i), none] [(0, (maxI on ab)), (0, be)] mem _
      refine zS_invsE (mt' := m_Ma_max) (avs := [(0, be), (0, (maxI on ab))]) (st := []) d_Se_leftAtWorst_96 l_Se_42 k_Ma_max rfl rfl rfl rfl (s_Ma_max mem be (maxI on ab) (by omega) (by have := maxI_r (a := on) (b := ab) (A := 5) (by omega) (by omega); omega)) ?_
      show zS zT m_Se_leftAtWorst (0, 0) 99 [some (0, a), some (2, x), some (0, px), some (0, be), some (0, on), some (0, ab), some (0, i), none] [(0, (maxI be (maxI on ab)))] mem _
      exact zS_iret d_Se_leftAtWorst_99 rfl ⟨Nat.zero_le _, Nat.zero_le _⟩ ⟨by rw [← i5, ← i6, ← i7, zsm_e (n := 5) (by omega), zsm_e (n := 5) (by omega), zsm_e (n := 5) (by omega), Int.add_zero, Int.add_zero, Int.add_zero], rfl⟩
    · refine zV_iload_n d_Se_leftAtWorst_17 rfl ?_
      refine zV_iload d_Se_leftAtWorst_18 rfl ?_
      refine zV_ishr (a / pw i) d_Se_leftAtWorst_20 (shr_pw (by omega) (by omega) (by omega) (by omega)) ?_
      refine zV_iconst d_Se_leftAtWorst_21 ?_
      refine zV_iand 1 d_Se_leftAtWorst_22 ⟨by decide, rfl⟩ ?_
      refine zV_iconst d_Se_leftAtWorst_23 ?_
      refine zV_icmp_ne d_Se_leftAtWorst_24 (by omega) (by omega) (fun c24 => ?_) (fun c24 => ?_)
      · refine zV_iinc (L' := [some (0, a), some (2, x), some (0, px), some (0, be), some (0, on), some (0, ab), some (0, (i + 1)), none]) d_Se_leftAtWorst_82 (by decide) rfl rfl ?_
        refine zV_goto d_Se_leftAtWorst_85 ?_
        refine zV_forget (L' := [some (0, a), some (2, x), some (0, px), some (0, be), some (0, on), some (0, ab), some (0, (i + 1)), none]) (by simp [zle]) ?_
        have e0 := lwF_v a (mem x 1) (mem x 2) px 0 i
        have e1 := lwF_v a (mem x 1) (mem x 2) px 1 i
        have e2 := lwF_v a (mem x 1) (mem x 2) px 2 i
        try rw [mod2] at c24
        refine ih _ (by omega) _ _ _ _ rfl (by omega) (by omega) (by omega) (by omega) (by omega) ?_ ?_ ?_
        · rw [← i5, zsm_s (n := 5) (i := i) (by omega)]; omega
        · rw [← i6, zsm_s (n := 5) (i := i) (by omega)]; omega
        · rw [← i7, zsm_s (n := 5) (i := i) (by omega)]; omega
      · refine zV_aload_n d_Se_leftAtWorst_27 rfl ?_
        refine zV_iload d_Se_leftAtWorst_28 rfl ?_
        refine zV_iload_n d_Se_leftAtWorst_30 rfl ?_
        refine zV_iconst d_Se_leftAtWorst_31 ?_
        refine zS_invvE (mt' := m_Cu_sideAs) (avs := [(0, i), (0, px), (0, 0)]) (st := []) d_Se_leftAtWorst_32 l_Se_32 k_Cu_sideAs hx rfl rfl rfl rfl (s_Cu_sideAs mem x i px 0 hx (by omega) (by omega) (by omega) (by omega) (by omega)) ?_
        show zS zT m_Se_leftAtWorst (0, 0) 35 [some (0, a), some (2, x), some (0, px), some (0, be), some (0, on), some (0, ab), some (0, i), none] [(0, (sdK i (mem x 1) (mem x 2) px 0))] mem _
        refine zV_istore (L' := [some (0, a), some (2, x), some (0, px), some (0, be), some (0, on), some (0, ab), some (0, i), some (0, (sdK i (mem x 1) (mem x 2) px 0))]) d_Se_leftAtWorst_35 (by decide) rfl ?_
        refine zV_iload_n d_Se_leftAtWorst_37 rfl ?_
        refine zV_iload d_Se_leftAtWorst_38 rfl ?_
        refine zV_if_ne d_Se_leftAtWorst_40 (sdK_i _ _ _ _ _) (fun c40 => ?_) (fun c40 => ?_)
        · refine zV_iconst d_Se_leftAtWorst_47 ?_
          refine zV_iadd d_Se_leftAtWorst_48 ?_
          refine zV_istore_n (L' := [some (0, a), some (2, x), some (0, px), some (0, (be + 0)), some (0, on), some (0, ab), some (0, i), some (0, (sdK i (mem x 1) (mem x 2) px 0))]) d_Se_leftAtWorst_49 (by decide) rfl ?_
          refine zV_iload d_Se_leftAtWorst_50 rfl ?_
          refine zV_iload d_Se_leftAtWorst_52 rfl ?_
          refine zV_iconst d_Se_leftAtWorst_54 ?_
          refine zV_icmp_ne d_Se_leftAtWorst_55 (sdK_i _ _ _ _ _) (by omega) (fun c55 => ?_) (fun c55 => ?_)
          · refine zV_iconst d_Se_leftAtWorst_62 ?_
            refine zV_iadd d_Se_leftAtWorst_63 ?_
            refine zV_istore (L' := [some (0, a), some (2, x), some (0, px), some (0, (be + 0)), some (0, (on + 0)), some (0, ab), some (0, i), some (0, (sdK i (mem x 1) (mem x 2) px 0))]) d_Se_leftAtWorst_64 (by decide) rfl ?_
            refine zV_iload d_Se_leftAtWorst_66 rfl ?_
            refine zV_iload d_Se_leftAtWorst_68 rfl ?_
            refine zV_iconst d_Se_leftAtWorst_70 ?_
            refine zV_icmp_ne d_Se_leftAtWorst_71 (sdK_i _ _ _ _ _) (by omega) (fun c71 => ?_) (fun c71 => ?_)
            · refine zV_iconst d_Se_leftAtWorst_78 ?_
              refine zV_iadd d_Se_leftAtWorst_79 ?_
              refine zV_istore (L' := [some (0, a), some (2, x), some (0, px), some (0, (be + 0)), some (0, (on + 0)), some (0, (ab + 0)), some (0, i), some (0, (sdK i (mem x 1) (mem x 2) px 0))]) d_Se_leftAtWorst_80 (by decide) rfl ?_
              refine zV_iinc (L' := [some (0, a), some (2, x), some (0, px), some (0, (be + 0)), some (0, (on + 0)), some (0, (ab + 0)), some (0, (i + 1)), some (0, (sdK i (mem x 1) (mem x 2) px 0))]) d_Se_leftAtWorst_82 (by decide) rfl rfl ?_
              refine zV_goto d_Se_leftAtWorst_85 ?_
              refine zV_forget (L' := [some (0, a), some (2, x), some (0, px), some (0, (be + 0)), some (0, (on + 0)), some (0, (ab + 0)), some (0, (i + 1)), none]) (by simp [zle]) ?_
              have e0 := lwF_v a (mem x 1) (mem x 2) px 0 i
              have e1 := lwF_v a (mem x 1) (mem x 2) px 1 i
              have e2 := lwF_v a (mem x 1) (mem x 2) px 2 i
              try rw [mod2] at c24
              refine ih _ (by omega) _ _ _ _ rfl (by omega) (by omega) (by omega) (by omega) (by omega) ?_ ?_ ?_
              · rw [← i5, zsm_s (n := 5) (i := i) (by omega)]; omega
              · rw [← i6, zsm_s (n := 5) (i := i) (by omega)]; omega
              · rw [← i7, zsm_s (n := 5) (i := i) (by omega)]; omega
            · refine zV_iconst d_Se_leftAtWorst_74 ?_
              refine zV_goto d_Se_leftAtWorst_75 ?_
              refine zV_iadd d_Se_leftAtWorst_79 ?_
              refine zV_istore (L' := [some (0, a), some (2, x), some (0, px), some (0, (be + 0)), some (0, (on + 0)), some (0, (ab + 1)), some (0, i), some (0, (sdK i (mem x 1) (mem x 2) px 0))]) d_Se_leftAtWorst_80 (by decide) rfl ?_
              refine zV_iinc (L' := [some (0, a), some (2, x), some (0, px), some (0, (be + 0)), some (0, (on + 0)), some (0, (ab + 1)), some (0, (i + 1)), some (0, (sdK i (mem x 1) (mem x 2) px 0))]) d_Se_leftAtWorst_82 (by decide) rfl rfl ?_
              refine zV_goto d_Se_leftAtWorst_85 ?_
              refine zV_forget (L' := [some (0, a), some (2, x), some (0, px), some (0, (be + 0)), some (0, (on + 0)), some (0, (ab + 1)), some (0, (i + 1)), none]) (by simp [zle]) ?_
              have e0 := lwF_v a (mem x 1) (mem x 2) px 0 i
              have e1 := lwF_v a (mem x 1) (mem x 2) px 1 i
              have e2 := lwF_v a (mem x 1) (mem x 2) px 2 i
              try rw [mod2] at c24
              refine ih _ (by omega) _ _ _ _ rfl (by omega) (by omega) (by omega) (by omega) (by omega) ?_ ?_ ?_
              · rw [← i5, zsm_s (n := 5) (i := i) (by omega)]; omega
              · rw [← i6, zsm_s (n := 5) (i := i) (by omega)]; omega
              · rw [← i7, zsm_s (n := 5) (i := i) (by omega)]; omega
          · refine zV_iconst d_Se_leftAtWorst_58 ?_
            refine zV_goto d_Se_leftAtWorst_59 ?_
            refine zV_iadd d_Se_leftAtWorst_63 ?_
            refine zV_istore (L' := [some (0, a), some (2, x), some (0, px), some (0, (be + 0)), some (0, (on + 1)), some (0, ab), some (0, i), some (0, (sdK i (mem x 1) (mem x 2) px 0))]) d_Se_leftAtWorst_64 (by decide) rfl ?_
            refine zV_iload d_Se_leftAtWorst_66 rfl ?_
            refine zV_iload d_Se_leftAtWorst_68 rfl ?_
            refine zV_iconst d_Se_leftAtWorst_70 ?_
            refine zV_icmp_ne d_Se_leftAtWorst_71 (sdK_i _ _ _ _ _) (by omega) (fun c71 => ?_) (fun c71 => ?_)
            · refine zV_iconst d_Se_leftAtWorst_78 ?_
              refine zV_iadd d_Se_leftAtWorst_79 ?_
              refine zV_istore (L' := [some (0, a), some (2, x), some (0, px), some (0, (be + 0)), some (0, (on + 1)), some (0, (ab + 0)), some (0, i), some (0, (sdK i (mem x 1) (mem x 2) px 0))]) d_Se_leftAtWorst_80 (by decide) rfl ?_
              refine zV_iinc (L' := [some (0, a), some (2, x), some (0, px), some (0, (be + 0)), some (0, (on + 1)), some (0, (ab + 0)), some (0, (i + 1)), some (0, (sdK i (mem x 1) (mem x 2) px 0))]) d_Se_leftAtWorst_82 (by decide) rfl rfl ?_
              refine zV_goto d_Se_leftAtWorst_85 ?_
              refine zV_forget (L' := [some (0, a), some (2, x), some (0, px), some (0, (be + 0)), some (0, (on + 1)), some (0, (ab + 0)), some (0, (i + 1)), none]) (by simp [zle]) ?_
              have e0 := lwF_v a (mem x 1) (mem x 2) px 0 i
              have e1 := lwF_v a (mem x 1) (mem x 2) px 1 i
              have e2 := lwF_v a (mem x 1) (mem x 2) px 2 i
              try rw [mod2] at c24
              refine ih _ (by omega) _ _ _ _ rfl (by omega) (by omega) (by omega) (by omega) (by omega) ?_ ?_ ?_
              · rw [← i5, zsm_s (n := 5) (i := i) (by omega)]; omega
              · rw [← i6, zsm_s (n := 5) (i := i) (by omega)]; omega
              · rw [← i7, zsm_s (n := 5) (i := i) (by omega)]; omega
            · refine zV_iconst d_Se_leftAtWorst_74 ?_
              refine zV_goto d_Se_leftAtWorst_75 ?_
              refine zV_iadd d_Se_leftAtWorst_79 ?_
              refine zV_istore (L' := [some (0, a), some (2, x), some (0, px), some (0, (be + 0)), some (0, (on + 1)), some (0, (ab + 1)), some (0, i), some (0, (sdK i (mem x 1) (mem x 2) px 0))]) d_Se_leftAtWorst_80 (by decide) rfl ?_
              refine zV_iinc (L' := [some (0, a), some (2, x), some (0, px), some (0, (be + 0)), some (0, (on + 1)), some (0, (ab + 1)), some (0, (i + 1)), some (0, (sdK i (mem x 1) (mem x 2) px 0))]) d_Se_leftAtWorst_82 (by decide) rfl rfl ?_
              refine zV_goto d_Se_leftAtWorst_85 ?_
              refine zV_forget (L' := [some (0, a), some (2, x), some (0, px), some (0, (be + 0)), some (0, (on + 1)), some (0, (ab + 1)), some (0, (i + 1)), none]) (by simp [zle]) ?_
              have e0 := lwF_v a (mem x 1) (mem x 2) px 0 i
              have e1 := lwF_v a (mem x 1) (mem x 2) px 1 i
              have e2 := lwF_v a (mem x 1) (mem x 2) px 2 i
              try rw [mod2] at c24
              refine ih _ (by omega) _ _ _ _ rfl (by omega) (by omega) (by omega) (by omega) (by omega) ?_ ?_ ?_
              · rw [← i5, zsm_s (n := 5) (i := i) (by omega)]; omega
              · rw [← i6, zsm_s (n := 5) (i := i) (by omega)]; omega
              · rw [← i7, zsm_s (n := 5) (i := i) (by omega)]; omega
        · refine zV_iconst d_Se_leftAtWorst_43 ?_
          refine zV_goto d_Se_leftAtWorst_44 ?_
          refine zV_iadd d_Se_leftAtWorst_48 ?_
          refine zV_istore_n (L' := [some (0, a), some (2, x), some (0, px), some (0, (be + 1)), some (0, on), some (0, ab), some (0, i), some (0, (sdK i (mem x 1) (mem x 2) px 0))]) d_Se_leftAtWorst_49 (by decide) rfl ?_
          refine zV_iload d_Se_leftAtWorst_50 rfl ?_
          refine zV_iload d_Se_leftAtWorst_52 rfl ?_
          refine zV_iconst d_Se_leftAtWorst_54 ?_
          refine zV_icmp_ne d_Se_leftAtWorst_55 (sdK_i _ _ _ _ _) (by omega) (fun c55 => ?_) (fun c55 => ?_)
          · refine zV_iconst d_Se_leftAtWorst_62 ?_
            refine zV_iadd d_Se_leftAtWorst_63 ?_
            refine zV_istore (L' := [some (0, a), some (2, x), some (0, px), some (0, (be + 1)), some (0, (on + 0)), some (0, ab), some (0, i), some (0, (sdK i (mem x 1) (mem x 2) px 0))]) d_Se_leftAtWorst_64 (by decide) rfl ?_
            refine zV_iload d_Se_leftAtWorst_66 rfl ?_
            refine zV_iload d_Se_leftAtWorst_68 rfl ?_
            refine zV_iconst d_Se_leftAtWorst_70 ?_
            refine zV_icmp_ne d_Se_leftAtWorst_71 (sdK_i _ _ _ _ _) (by omega) (fun c71 => ?_) (fun c71 => ?_)
            · refine zV_iconst d_Se_leftAtWorst_78 ?_
              refine zV_iadd d_Se_leftAtWorst_79 ?_
              refine zV_istore (L' := [some (0, a), some (2, x), some (0, px), some (0, (be + 1)), some (0, (on + 0)), some (0, (ab + 0)), some (0, i), some (0, (sdK i (mem x 1) (mem x 2) px 0))]) d_Se_leftAtWorst_80 (by decide) rfl ?_
              refine zV_iinc (L' := [some (0, a), some (2, x), some (0, px), some (0, (be + 1)), some (0, (on + 0)), some (0, (ab + 0)), some (0, (i + 1)), some (0, (sdK i (mem x 1) (mem x 2) px 0))]) d_Se_leftAtWorst_82 (by decide) rfl rfl ?_
              refine zV_goto d_Se_leftAtWorst_85 ?_
              refine zV_forget (L' := [some (0, a), some (2, x), some (0, px), some (0, (be + 1)), some (0, (on + 0)), some (0, (ab + 0)), some (0, (i + 1)), none]) (by simp [zle]) ?_
              have e0 := lwF_v a (mem x 1) (mem x 2) px 0 i
              have e1 := lwF_v a (mem x 1) (mem x 2) px 1 i
              have e2 := lwF_v a (mem x 1) (mem x 2) px 2 i
              try rw [mod2] at c24
              refine ih _ (by omega) _ _ _ _ rfl (by omega) (by omega) (by omega) (by omega) (by omega) ?_ ?_ ?_
              · rw [← i5, zsm_s (n := 5) (i := i) (by omega)]; omega
              · rw [← i6, zsm_s (n := 5) (i := i) (by omega)]; omega
              · rw [← i7, zsm_s (n := 5) (i := i) (by omega)]; omega
            · refine zV_iconst d_Se_leftAtWorst_74 ?_
              refine zV_goto d_Se_leftAtWorst_75 ?_
              refine zV_iadd d_Se_leftAtWorst_79 ?_
              refine zV_istore (L' := [some (0, a), some (2, x), some (0, px), some (0, (be + 1)), some (0, (on + 0)), some (0, (ab + 1)), some (0, i), some (0, (sdK i (mem x 1) (mem x 2) px 0))]) d_Se_leftAtWorst_80 (by decide) rfl ?_
              refine zV_iinc (L' := [some (0, a), some (2, x), some (0, px), some (0, (be + 1)), some (0, (on + 0)), some (0, (ab + 1)), some (0, (i + 1)), some (0, (sdK i (mem x 1) (mem x 2) px 0))]) d_Se_leftAtWorst_82 (by decide) rfl rfl ?_
              refine zV_goto d_Se_leftAtWorst_85 ?_
              refine zV_forget (L' := [some (0, a), some (2, x), some (0, px), some (0, (be + 1)), some (0, (on + 0)), some (0, (ab + 1)), some (0, (i + 1)), none]) (by simp [zle]) ?_
              have e0 := lwF_v a (mem x 1) (mem x 2) px 0 i
              have e1 := lwF_v a (mem x 1) (mem x 2) px 1 i
              have e2 := lwF_v a (mem x 1) (mem x 2) px 2 i
              try rw [mod2] at c24
              refine ih _ (by omega) _ _ _ _ rfl (by omega) (by omega) (by omega) (by omega) (by omega) ?_ ?_ ?_
              · rw [← i5, zsm_s (n := 5) (i := i) (by omega)]; omega
              · rw [← i6, zsm_s (n := 5) (i := i) (by omega)]; omega
              · rw [← i7, zsm_s (n := 5) (i := i) (by omega)]; omega
          · refine zV_iconst d_Se_leftAtWorst_58 ?_
            refine zV_goto d_Se_leftAtWorst_59 ?_
            refine zV_iadd d_Se_leftAtWorst_63 ?_
            refine zV_istore (L' := [some (0, a), some (2, x), some (0, px), some (0, (be + 1)), some (0, (on + 1)), some (0, ab), some (0, i), some (0, (sdK i (mem x 1) (mem x 2) px 0))]) d_Se_leftAtWorst_64 (by decide) rfl ?_
            refine zV_iload d_Se_leftAtWorst_66 rfl ?_
            refine zV_iload d_Se_leftAtWorst_68 rfl ?_
            refine zV_iconst d_Se_leftAtWorst_70 ?_
            refine zV_icmp_ne d_Se_leftAtWorst_71 (sdK_i _ _ _ _ _) (by omega) (fun c71 => ?_) (fun c71 => ?_)
            · refine zV_iconst d_Se_leftAtWorst_78 ?_
              refine zV_iadd d_Se_leftAtWorst_79 ?_
              refine zV_istore (L' := [some (0, a), some (2, x), some (0, px), some (0, (be + 1)), some (0, (on + 1)), some (0, (ab + 0)), some (0, i), some (0, (sdK i (mem x 1) (mem x 2) px 0))]) d_Se_leftAtWorst_80 (by decide) rfl ?_
              refine zV_iinc (L' := [some (0, a), some (2, x), some (0, px), some (0, (be + 1)), some (0, (on + 1)), some (0, (ab + 0)), some (0, (i + 1)), some (0, (sdK i (mem x 1) (mem x 2) px 0))]) d_Se_leftAtWorst_82 (by decide) rfl rfl ?_
              refine zV_goto d_Se_leftAtWorst_85 ?_
              refine zV_forget (L' := [some (0, a), some (2, x), some (0, px), some (0, (be + 1)), some (0, (on + 1)), some (0, (ab + 0)), some (0, (i + 1)), none]) (by simp [zle]) ?_
              have e0 := lwF_v a (mem x 1) (mem x 2) px 0 i
              have e1 := lwF_v a (mem x 1) (mem x 2) px 1 i
              have e2 := lwF_v a (mem x 1) (mem x 2) px 2 i
              try rw [mod2] at c24
              refine ih _ (by omega) _ _ _ _ rfl (by omega) (by omega) (by omega) (by omega) (by omega) ?_ ?_ ?_
              · rw [← i5, zsm_s (n := 5) (i := i) (by omega)]; omega
              · rw [← i6, zsm_s (n := 5) (i := i) (by omega)]; omega
              · rw [← i7, zsm_s (n := 5) (i := i) (by omega)]; omega
            · refine zV_iconst d_Se_leftAtWorst_74 ?_
              refine zV_goto d_Se_leftAtWorst_75 ?_
              refine zV_iadd d_Se_leftAtWorst_79 ?_
              refine zV_istore (L' := [some (0, a), some (2, x), some (0, px), some (0, (be + 1)), some (0, (on + 1)), some (0, (ab + 1)), some (0, i), some (0, (sdK i (mem x 1) (mem x 2) px 0))]) d_Se_leftAtWorst_80 (by decide) rfl ?_
              refine zV_iinc (L' := [some (0, a), some (2, x), some (0, px), some (0, (be + 1)), some (0, (on + 1)), some (0, (ab + 1)), some (0, (i + 1)), some (0, (sdK i (mem x 1) (mem x 2) px 0))]) d_Se_leftAtWorst_82 (by decide) rfl rfl ?_
              refine zV_goto d_Se_leftAtWorst_85 ?_
              refine zV_forget (L' := [some (0, a), some (2, x), some (0, px), some (0, (be + 1)), some (0, (on + 1)), some (0, (ab + 1)), some (0, (i + 1)), none]) (by simp [zle]) ?_
              have e0 := lwF_v a (mem x 1) (mem x 2) px 0 i
              have e1 := lwF_v a (mem x 1) (mem x 2) px 1 i
              have e2 := lwF_v a (mem x 1) (mem x 2) px 2 i
              try rw [mod2] at c24
              refine ih _ (by omega) _ _ _ _ rfl (by omega) (by omega) (by omega) (by omega) (by omega) ?_ ?_ ?_
              · rw [← i5, zsm_s (n := 5) (i := i) (by omega)]; omega
              · rw [← i6, zsm_s (n := 5) (i := i) (by omega)]; omega
              · rw [← i7, zsm_s (n := 5) (i := i) (by omega)]; omega
theorem s_Se_leftAtWorst (mem : zMem) (a x px : Int) (hx : zkd zSH x = (0, 0)) (ha : 0 ≤ a ∧ a < 32) (hp : -9 ≤ px ∧ px ≤ 9) (h1 : -9 ≤ mem x 1 ∧ mem x 1 ≤ 9) (h2 : -9 ≤ mem x 2 ∧ mem x 2 ≤ 9) : zF m_Se_leftAtWorst [(0, a), (2, x), (0, px)] mem (fun r m => r = some (0, lw a (mem x 1) (mem x 2) px) ∧ m = mem) := by
  refine zF_of (by decide) (Nat.le_of_ble_eq_true rfl) ?_
  show zS zT m_Se_leftAtWorst (0, 0) 0 [some (0, a), some (2, x), some (0, px), none, none, none, none, none] [] mem _
  refine zV_iconst d_Se_leftAtWorst_0 ?_
  refine zV_istore_n (L' := [some (0, a), some (2, x), some (0, px), some (0, 0), none, none, none, none]) d_Se_leftAtWorst_1 (by decide) rfl ?_
  refine zV_iconst d_Se_leftAtWorst_2 ?_
  refine zV_istore (L' := [some (0, a), some (2, x), some (0, px), some (0, 0), some (0, 0), none, none, none]) d_Se_leftAtWorst_3 (by decide) rfl ?_
  refine zV_iconst d_Se_leftAtWorst_5 ?_
  refine zV_istore (L' := [some (0, a), some (2, x), some (0, px), some (0, 0), some (0, 0), some (0, 0), none, none]) d_Se_leftAtWorst_6 (by decide) rfl ?_
  refine zV_iconst d_Se_leftAtWorst_8 ?_
  refine zV_istore (L' := [some (0, a), some (2, x), some (0, px), some (0, 0), some (0, 0), some (0, 0), some (0, 0), none]) d_Se_leftAtWorst_9 (by decide) rfl ?_
  exact s_Se_leftAtWorst_l mem a x px hx ha hp h1 h2 _ _ _ 0 0 0 0 (by omega) (by omega) (by omega) (by omega) (by omega) (by rw [Int.zero_add]; rfl) (by rw [Int.zero_add]; rfl) (by rw [Int.zero_add]; rfl)
def asF (a b c : Int) (x : Int) (s : Int × Int) : Int × Int := if lw a b c x < s.2 then (x, lw a b c x) else s
def asX (a b c : Int) : Int := (zfo (asF a b c) (10 - (-9) : Int).toNat (-9) (-9, 6)).1 + 9
theorem s_Se_nextAsk_l (mem : zMem) (a x : Int) (hx : zkd zSH x = (0, 0)) (ha : 0 ≤ a ∧ a < 32) (h1 : -9 ≤ mem x 1 ∧ mem x 1 ≤ 9) (h2 : -9 ≤ mem x 2 ∧ mem x 2 ≤ 9) (q : Int × Int) : ∀ (i : Int) (be : Int) (fe : Int), (-9 ≤ i) → (i ≤ 10) → (-9 ≤ be ∧ be ≤ 9) → (0 ≤ fe ∧ fe ≤ 6) → (zfo (asF a (mem x 1) (mem x 2)) (10 - i).toNat i (be, fe) = q) → zS zT m_Se_nextAsk (0, 0) 16 [some (0, a), some (2, x), some (0, be), some (0, fe), some (0, i), none] [] mem (zQs (fun r m => r = some (0, q.1 + 9) ∧ m = mem)) := by
  intro i be fe
  obtain ⟨k9, hk9⟩ : ∃ k : Nat, (10 - i).toNat = k := ⟨_, rfl⟩
  induction k9 using Nat.strongRecOn generalizing i be fe with
  | _ k9 ih =>
    intro i0 i1 i2 i3 i4
    refine zV_iload d_Se_nextAsk_16 rfl ?_
    refine zV_bipush d_Se_nextAsk_18 ?_
    refine zV_icmp_gt d_Se_nextAsk_20 (by omega) (by omega) (fun c20 => ?_) (fun c20 => ?_)
    · refine zV_iload_n d_Se_nextAsk_50 rfl ?_
      refine zV_bipush d_Se_nextAsk_51 ?_
      refine zV_iadd d_Se_nextAsk_53 ?_
      exact zS_iret d_Se_nextAsk_54 rfl ⟨Nat.zero_le _, Nat.zero_le _⟩ ⟨by rw [← i4, zfo_e (n := 10) (by omega)], rfl⟩
    · refine zV_iload_n d_Se_nextAsk_23 rfl ?_
      refine zV_aload_n d_Se_nextAsk_24 rfl ?_
      refine zV_iload d_Se_nextAsk_25 rfl ?_
      refine zS_invsE (mt' := m_Se_leftAtWorst) (avs := [(0, a), (2, x), (0, i)]) (st := []) d_Se_nextAsk_27 l_Se_38 k_Se_leftAtWorst rfl rfl rfl rfl (s_Se_leftAtWorst mem a x i hx (by omega) (by omega) h1 h2) ?_
      show zS zT m_Se_nextAsk (0, 0) 30 [some (0, a), some (2, x), some (0, be), some (0, fe), some (0, i), none] [(0, (lw a (mem x 1) (mem x 2) i))] mem _
      refine zV_istore (L' := [some (0, a), some (2, x), some (0, be), some (0, fe), some (0, i), some (0, (lw a (mem x 1) (mem x 2) i))]) d_Se_nextAsk_30 (by decide) rfl ?_
      refine zV_iload d_Se_nextAsk_32 rfl ?_
      refine zV_iload_n d_Se_nextAsk_34 rfl ?_
      refine zV_icmp_ge d_Se_nextAsk_35 (by have := lw_r a (mem x 1) (mem x 2) i; omega) (by omega) (fun c35 => ?_) (fun c35 => ?_)
      · refine zV_iinc (L' := [some (0, a), some (2, x), some (0, be), some (0, fe), some (0, (i + 1)), some (0, (lw a (mem x 1) (mem x 2) i))]) d_Se_nextAsk_44 (by decide) rfl rfl ?_
        refine zV_goto d_Se_nextAsk_47 ?_
        refine zV_forget (L' := [some (0, a), some (2, x), some (0, be), some (0, fe), some (0, (i + 1)), none]) (by simp [zle]) ?_
        have e0 := lw_r a (mem x 1) (mem x 2) i
        refine ih _ (by omega) _ _ _ rfl (by omega) (by omega) (by omega) (by omega) ?_
        rw [← i4, zfo_s (n := 10) (i := i) (by omega)]
        unfold asF
        first | rw [if_pos (by omega)] | rw [if_neg (by omega)]
      · refine zV_iload d_Se_nextAsk_38 rfl ?_
        refine zV_istore_n (L' := [some (0, a), some (2, x), some (0, be), some (0, (lw a (mem x 1) (mem x 2) i)), some (0, i), some (0, (lw a (mem x 1) (mem x 2) i))]) d_Se_nextAsk_40 (by decide) rfl ?_
        refine zV_iload d_Se_nextAsk_41 rfl ?_
        refine zV_istore_n (L' := [some (0, a), some (2, x), some (0, i), some (0, (lw a (mem x 1) (mem x 2) i)), some (0, i), some (0, (lw a (mem x 1) (mem x 2) i))]) d_Se_nextAsk_43 (by decide) rfl ?_
        refine zV_iinc (L' := [some (0, a), some (2, x), some (0, i), some (0, (lw a (mem x 1) (mem x 2) i)), some (0, (i + 1)), some (0, (lw a (mem x 1) (mem x 2) i))]) d_Se_nextAsk_44 (by decide) rfl rfl ?_
        refine zV_goto d_Se_nextAsk_47 ?_
        refine zV_forget (L' := [some (0, a), some (2, x), some (0, i), some (0, (lw a (mem x 1) (mem x 2) i)), some (0, (i + 1)), none]) (by simp [zle]) ?_
        have e0 := lw_r a (mem x 1) (mem x 2) i
        refine ih _ (by omega) _ _ _ rfl (by omega) (by omega) (by omega) (by omega) ?_
        rw [← i4, zfo_s (n := 10) (i := i) (by omega)]
        unfold asF
        first | rw [if_pos (by omega)] | rw [if_neg (by omega)]
theorem s_Se_nextAsk (mem : zMem) (a x : Int) (hx : zkd zSH x = (0, 0)) (ha : 0 ≤ a ∧ a < 32) (h1 : -9 ≤ mem x 1 ∧ mem x 1 ≤ 9) (h2 : -9 ≤ mem x 2 ∧ mem x 2 ≤ 9) : zF m_Se_nextAsk [(0, a), (2, x)] mem (fun r m => r = some (0, if a = 0 then -1 else asX a (mem x 1) (mem x 2)) ∧ m = mem) := by
  refine zF_of (by decide) (Nat.le_of_ble_eq_true rfl) ?_
  show zS zT m_Se_nextAsk (0, 0) 0 [some (0, a), some (2, x), none, none, none, none] [] mem _
  refine zV_iload_n d_Se_nextAsk_0 rfl ?_
  refine zV_if_ne d_Se_nextAsk_1 (by omega) (fun c1 => ?_) (fun c1 => ?_)
  · refine zV_bipush d_Se_nextAsk_6 ?_
    refine zV_istore_n (L' := [some (0, a), some (2, x), some (0, (-9)), none, none, none]) d_Se_nextAsk_8 (by decide) rfl ?_
    refine zV_bipush d_Se_nextAsk_9 ?_
    refine zV_istore_n (L' := [some (0, a), some (2, x), some (0, (-9)), some (0, 6), none, none]) d_Se_nextAsk_11 (by decide) rfl ?_
    refine zV_bipush d_Se_nextAsk_12 ?_
    refine zV_istore (L' := [some (0, a), some (2, x), some (0, (-9)), some (0, 6), some (0, (-9)), none]) d_Se_nextAsk_14 (by decide) rfl ?_
    rw [if_neg (by omega)]
    exact s_Se_nextAsk_l mem a x hx ha h1 h2 _ (-9) (-9) 6 (by omega) (by omega) (by omega) (by omega) rfl
  · refine zV_iconst d_Se_nextAsk_4 ?_
    exact zS_iret d_Se_nextAsk_5 rfl ⟨Nat.zero_le _, Nat.zero_le _⟩ ⟨by rw [if_pos (by omega)], rfl⟩
def okF (f : Int) : Prop := (0 ≤ f ∧ f ≤ 6666) ∧ f / 100 % 10 ≤ 6 ∧ f / 10 % 10 ≤ 6 ∧ f % 10 ≤ 6
def alw (f s : Int) : Prop := (f = 1 ∧ s = 0) ∨ (f = 2 ∧ s = 1) ∨ (f = 3 ∧ s = 2) ∨ (f = 4 ∧ s ≠ 1) ∨ (f = 5 ∧ s ≠ 0) ∨ ((f < 1 ∨ 5 < f) ∧ s ≠ 2)
noncomputable def rdF (mem : zMem) (mode f : Int) : zMem := zup (zup (zup (zup (zup mem 73 1 (zb (mode = 0))) 74 3 (f % 10)) 74 2 (f / 10 % 10)) 74 1 (f / 10 / 10 % 10)) 74 0 (f / 10 / 10 / 10 % 10)
theorem s_Fo_isForm (mem : zMem) (f : Int) (hf : I32 f) : zF m_Fo_isForm [(0, f)] mem (fun r m => r = some (0, zb (okF f)) ∧ m = mem) := by
  refine zF_of (by decide) (Nat.le_of_ble_eq_true rfl) ?_
  show zS zT m_Fo_isForm (0, 0) 0 [some (0, f)] [] mem _
  refine zV_iload_n d_Fo_isForm_0 rfl ?_
  refine zV_if_lt d_Fo_isForm_1 (by omega) (fun c1 => ?_) (fun c1 => ?_)
  · refine zV_iconst d_Fo_isForm_48 ?_
    exact zS_zret d_Fo_isForm_49 rfl ⟨Nat.zero_le _, Nat.zero_le _⟩ (Or.inl rfl) (by refine ⟨?_, rfl⟩; first | rw [zb_t (by unfold okF; omega)] | rw [zb_f (by unfold okF; omega)])
  · refine zV_iload_n d_Fo_isForm_4 rfl ?_
    refine zV_sipush d_Fo_isForm_5 ?_
    refine zV_icmp_gt d_Fo_isForm_8 (by omega) (by omega) (fun c8 => ?_) (fun c8 => ?_)
    · refine zV_iconst d_Fo_isForm_48 ?_
      exact zS_zret d_Fo_isForm_49 rfl ⟨Nat.zero_le _, Nat.zero_le _⟩ (Or.inl rfl) (by refine ⟨?_, rfl⟩; first | rw [zb_t (by unfold okF; omega)] | rw [zb_f (by unfold okF; omega)])
    · refine zV_iload_n d_Fo_isForm_11 rfl ?_
      refine zV_bipush d_Fo_isForm_12 ?_
      refine zV_idiv_p d_Fo_isForm_14 (by omega) (by omega) ?_
      refine zV_bipush d_Fo_isForm_15 ?_
      refine zV_irem_p d_Fo_isForm_17 (by omega) (by omega) ?_
      refine zV_bipush d_Fo_isForm_18 ?_
      refine zV_icmp_gt d_Fo_isForm_20 (by omega) (by omega) (fun c20 => ?_) (fun c20 => ?_)
      · refine zV_iconst d_Fo_isForm_48 ?_
        exact zS_zret d_Fo_isForm_49 rfl ⟨Nat.zero_le _, Nat.zero_le _⟩ (Or.inl rfl) (by refine ⟨?_, rfl⟩; first | rw [zb_t (by unfold okF; omega)] | rw [zb_f (by unfold okF; omega)])
      · refine zV_iload_n d_Fo_isForm_23 rfl ?_
        refine zV_bipush d_Fo_isForm_24 ?_
        refine zV_idiv_p d_Fo_isForm_26 (by omega) (by omega) ?_
        refine zV_bipush d_Fo_isForm_27 ?_
        refine zV_irem_p d_Fo_isForm_29 (by omega) (by omega) ?_
        refine zV_bipush d_Fo_isForm_30 ?_
        refine zV_icmp_gt d_Fo_isForm_32 (by omega) (by omega) (fun c32 => ?_) (fun c32 => ?_)
        · refine zV_iconst d_Fo_isForm_48 ?_
          exact zS_zret d_Fo_isForm_49 rfl ⟨Nat.zero_le _, Nat.zero_le _⟩ (Or.inl rfl) (by refine ⟨?_, rfl⟩; first | rw [zb_t (by unfold okF; omega)] | rw [zb_f (by unfold okF; omega)])
        · refine zV_iload_n d_Fo_isForm_35 rfl ?_
          refine zV_bipush d_Fo_isForm_36 ?_
          refine zV_irem_p d_Fo_isForm_38 (by omega) (by omega) ?_
          refine zV_bipush d_Fo_isForm_39 ?_
          refine zV_icmp_gt d_Fo_isForm_41 (by omega) (by omega) (fun c41 => ?_) (fun c41 => ?_)
          · refine zV_iconst d_Fo_isForm_48 ?_
            exact zS_zret d_Fo_isForm_49 rfl ⟨Nat.zero_le _, Nat.zero_le _⟩ (Or.inl rfl) (by refine ⟨?_, rfl⟩; first | rw [zb_t (by unfold okF; omega)] | rw [zb_f (by unfold okF; omega)])
          · refine zV_iconst d_Fo_isForm_44 ?_
            refine zV_goto d_Fo_isForm_45 ?_
            exact zS_zret d_Fo_isForm_49 rfl ⟨Nat.zero_le _, Nat.zero_le _⟩ (Or.inr rfl) (by refine ⟨?_, rfl⟩; first | rw [zb_t (by unfold okF; omega)] | rw [zb_f (by unfold okF; omega)])
theorem s_Fo_allows (mem : zMem) (f s : Int) (hf : I32 f) (hs : I32 s) : zF m_Fo_allows [(0, f), (0, s)] mem (fun r m => r = some (0, zb (alw f s)) ∧ m = mem) := by
  refine zF_of (by decide) (Nat.le_of_ble_eq_true rfl) ?_
  show zS zT m_Fo_allows (0, 0) 0 [some (0, f), some (0, s)] [] mem _
  refine zV_iload_n d_Fo_allows_0 rfl ?_
  by_cases c1_1 : f = 1
  · refine zV_tsIn (off := 35) (tgt := 36) d_Fo_allows_1 (by omega) c1_1 (by decide) ?_
    refine zV_iload_n d_Fo_allows_36 rfl ?_
    refine zV_if_ne d_Fo_allows_37 (by omega) (fun c37 => ?_) (fun c37 => ?_)
    · refine zV_iconst d_Fo_allows_44 ?_
      exact zS_zret d_Fo_allows_45 rfl ⟨Nat.zero_le _, Nat.zero_le _⟩ (Or.inl rfl) (by refine ⟨?_, rfl⟩; first | rw [zb_t (by unfold alw; omega)] | rw [zb_f (by unfold alw; omega)])
    · refine zV_iconst d_Fo_allows_40 ?_
      refine zV_goto d_Fo_allows_41 ?_
      exact zS_zret d_Fo_allows_45 rfl ⟨Nat.zero_le _, Nat.zero_le _⟩ (Or.inr rfl) (by refine ⟨?_, rfl⟩; first | rw [zb_t (by unfold alw; omega)] | rw [zb_f (by unfold alw; omega)])
  by_cases c1_2 : f = 2
  · refine zV_tsIn (off := 45) (tgt := 46) d_Fo_allows_1 (by omega) c1_2 (by decide) ?_
    refine zV_iload_n d_Fo_allows_46 rfl ?_
    refine zV_iconst d_Fo_allows_47 ?_
    refine zV_icmp_ne d_Fo_allows_48 (by omega) (by omega) (fun c48 => ?_) (fun c48 => ?_)
    · refine zV_iconst d_Fo_allows_55 ?_
      exact zS_zret d_Fo_allows_56 rfl ⟨Nat.zero_le _, Nat.zero_le _⟩ (Or.inl rfl) (by refine ⟨?_, rfl⟩; first | rw [zb_t (by unfold alw; omega)] | rw [zb_f (by unfold alw; omega)])
    · refine zV_iconst d_Fo_allows_51 ?_
      refine zV_goto d_Fo_allows_52 ?_
      exact zS_zret d_Fo_allows_56 rfl ⟨Nat.zero_le _, Nat.zero_le _⟩ (Or.inr rfl) (by refine ⟨?_, rfl⟩; first | rw [zb_t (by unfold alw; omega)] | rw [zb_f (by unfold alw; omega)])
  by_cases c1_3 : f = 3
  · refine zV_tsIn (off := 56) (tgt := 57) d_Fo_allows_1 (by omega) c1_3 (by decide) ?_
    refine zV_iload_n d_Fo_allows_57 rfl ?_
    refine zV_iconst d_Fo_allows_58 ?_
    refine zV_icmp_ne d_Fo_allows_59 (by omega) (by omega) (fun c59 => ?_) (fun c59 => ?_)
    · refine zV_iconst d_Fo_allows_66 ?_
      exact zS_zret d_Fo_allows_67 rfl ⟨Nat.zero_le _, Nat.zero_le _⟩ (Or.inl rfl) (by refine ⟨?_, rfl⟩; first | rw [zb_t (by unfold alw; omega)] | rw [zb_f (by unfold alw; omega)])
    · refine zV_iconst d_Fo_allows_62 ?_
      refine zV_goto d_Fo_allows_63 ?_
      exact zS_zret d_Fo_allows_67 rfl ⟨Nat.zero_le _, Nat.zero_le _⟩ (Or.inr rfl) (by refine ⟨?_, rfl⟩; first | rw [zb_t (by unfold alw; omega)] | rw [zb_f (by unfold alw; omega)])
  by_cases c1_4 : f = 4
  · refine zV_tsIn (off := 67) (tgt := 68) d_Fo_allows_1 (by omega) c1_4 (by decide) ?_
    refine zV_iload_n d_Fo_allows_68 rfl ?_
    refine zV_iconst d_Fo_allows_69 ?_
    refine zV_icmp_eq d_Fo_allows_70 (by omega) (by omega) (fun c70 => ?_) (fun c70 => ?_)
    · refine zV_iconst d_Fo_allows_77 ?_
      exact zS_zret d_Fo_allows_78 rfl ⟨Nat.zero_le _, Nat.zero_le _⟩ (Or.inl rfl) (by refine ⟨?_, rfl⟩; first | rw [zb_t (by unfold alw; omega)] | rw [zb_f (by unfold alw; omega)])
    · refine zV_iconst d_Fo_allows_73 ?_
      refine zV_goto d_Fo_allows_74 ?_
      exact zS_zret d_Fo_allows_78 rfl ⟨Nat.zero_le _, Nat.zero_le _⟩ (Or.inr rfl) (by refine ⟨?_, rfl⟩; first | rw [zb_t (by unfold alw; omega)] | rw [zb_f (by unfold alw; omega)])
  by_cases c1_5 : f = 5
  · refine zV_tsIn (off := 78) (tgt := 79) d_Fo_allows_1 (by omega) c1_5 (by decide) ?_
    refine zV_iload_n d_Fo_allows_79 rfl ?_
    refine zV_if_eq d_Fo_allows_80 (by omega) (fun c80 => ?_) (fun c80 => ?_)
    · refine zV_iconst d_Fo_allows_87 ?_
      exact zS_zret d_Fo_allows_88 rfl ⟨Nat.zero_le _, Nat.zero_le _⟩ (Or.inl rfl) (by refine ⟨?_, rfl⟩; first | rw [zb_t (by unfold alw; omega)] | rw [zb_f (by unfold alw; omega)])
    · refine zV_iconst d_Fo_allows_83 ?_
      refine zV_goto d_Fo_allows_84 ?_
      exact zS_zret d_Fo_allows_88 rfl ⟨Nat.zero_le _, Nat.zero_le _⟩ (Or.inr rfl) (by refine ⟨?_, rfl⟩; first | rw [zb_t (by unfold alw; omega)] | rw [zb_f (by unfold alw; omega)])
  refine zV_tsOut (tgt := 89) d_Fo_allows_1 (by omega) (by omega) (by decide) ?_
  refine zV_iload_n d_Fo_allows_89 rfl ?_
  refine zV_iconst d_Fo_allows_90 ?_
  refine zV_icmp_eq d_Fo_allows_91 (by omega) (by omega) (fun c91 => ?_) (fun c91 => ?_)
  · refine zV_iconst d_Fo_allows_98 ?_
    exact zS_zret d_Fo_allows_99 rfl ⟨Nat.zero_le _, Nat.zero_le _⟩ (Or.inl rfl) (by refine ⟨?_, rfl⟩; first | rw [zb_t (by unfold alw; omega)] | rw [zb_f (by unfold alw; omega)])
  · refine zV_iconst d_Fo_allows_94 ?_
    refine zV_goto d_Fo_allows_95 ?_
    exact zS_zret d_Fo_allows_99 rfl ⟨Nat.zero_le _, Nat.zero_le _⟩ (Or.inr rfl) (by refine ⟨?_, rfl⟩; first | rw [zb_t (by unfold alw; omega)] | rw [zb_f (by unfold alw; omega)])
theorem s_Fo_read (mem : zMem) (mode f : Int) (hm : I32 mode) (hf : 0 ≤ f ∧ f ≤ 6666) : zF m_Fo_read [(2, 73), (0, mode), (0, f)] mem (fun r m => r = none ∧ m = rdF mem mode f) := by
  refine zF_of (by decide) (Nat.le_of_ble_eq_true rfl) ?_
  show zS zT m_Fo_read (0, 0) 0 [some (2, 73), some (0, mode), some (0, f), none, none] [] mem _
  refine zV_aload_n d_Fo_read_0 rfl ?_
  refine zV_iload_n d_Fo_read_1 rfl ?_
  refine zV_if_ne d_Fo_read_2 (by omega) (fun c2 => ?_) (fun c2 => ?_)
  · refine zV_iconst d_Fo_read_9 ?_
    refine zS_putz d_Fo_read_10 f_Fo_15 rfl ⟨rfl, rfl⟩ rfl (Or.inl rfl) ?_
    refine zV_iload_n d_Fo_read_13 rfl ?_
    refine zV_istore_n (L' := [some (2, 73), some (0, mode), some (0, f), some (0, f), none]) d_Fo_read_14 (by decide) rfl ?_
    refine zV_iconst d_Fo_read_15 ?_
    refine zV_istore (L' := [some (2, 73), some (0, mode), some (0, f), some (0, f), some (0, 3)]) d_Fo_read_16 (by decide) rfl ?_
    refine zV_iload d_Fo_read_18 rfl ?_
    refine zV_if_lt d_Fo_read_20 (by omega) (fun c20 => absurd c20 (by omega)) (fun c20 => ?_)
    refine zV_aload_n d_Fo_read_23 rfl ?_
    refine zS_getr (r := 74) d_Fo_read_24 f_Fo_9 rfl rfl rfl ?_
    refine zV_iload d_Fo_read_27 rfl ?_
    refine zV_iload_n d_Fo_read_29 rfl ?_
    refine zV_bipush d_Fo_read_30 ?_
    refine zV_irem_p d_Fo_read_32 (by omega) (by omega) ?_
    refine zS_iast d_Fo_read_33 rfl rfl ⟨by omega, by omega⟩ ?_
    refine zV_iload_n d_Fo_read_34 rfl ?_
    refine zV_bipush d_Fo_read_35 ?_
    refine zV_idiv_p d_Fo_read_37 (by omega) (by omega) ?_
    refine zV_istore_n (L' := [some (2, 73), some (0, mode), some (0, f), some (0, (f / 10)), some (0, 3)]) d_Fo_read_38 (by decide) rfl ?_
    refine zV_iinc (L' := [some (2, 73), some (0, mode), some (0, f), some (0, (f / 10)), some (0, 2)]) d_Fo_read_39 (by decide) rfl rfl ?_
    refine zV_goto d_Fo_read_42 ?_
    refine zV_iload d_Fo_read_18 rfl ?_
    refine zV_if_lt d_Fo_read_20 (by omega) (fun c20 => absurd c20 (by omega)) (fun c20 => ?_)
    refine zV_aload_n d_Fo_read_23 rfl ?_
    refine zS_getr (r := 74) d_Fo_read_24 f_Fo_9 rfl rfl rfl ?_
    refine zV_iload d_Fo_read_27 rfl ?_
    refine zV_iload_n d_Fo_read_29 rfl ?_
    refine zV_bipush d_Fo_read_30 ?_
    refine zV_irem_p d_Fo_read_32 (by omega) (by omega) ?_
    refine zS_iast d_Fo_read_33 rfl rfl ⟨by omega, by omega⟩ ?_
    refine zV_iload_n d_Fo_read_34 rfl ?_
    refine zV_bipush d_Fo_read_35 ?_
    refine zV_idiv_p d_Fo_read_37 (by omega) (by omega) ?_
    refine zV_istore_n (L' := [some (2, 73), some (0, mode), some (0, f), some (0, ((f / 10) / 10)), some (0, 2)]) d_Fo_read_38 (by decide) rfl ?_
    refine zV_iinc (L' := [some (2, 73), some (0, mode), some (0, f), some (0, ((f / 10) / 10)), some (0, 1)]) d_Fo_read_39 (by decide) rfl rfl ?_
    refine zV_goto d_Fo_read_42 ?_
    refine zV_iload d_Fo_read_18 rfl ?_
    refine zV_if_lt d_Fo_read_20 (by omega) (fun c20 => absurd c20 (by omega)) (fun c20 => ?_)
    refine zV_aload_n d_Fo_read_23 rfl ?_
    refine zS_getr (r := 74) d_Fo_read_24 f_Fo_9 rfl rfl rfl ?_
    refine zV_iload d_Fo_read_27 rfl ?_
    refine zV_iload_n d_Fo_read_29 rfl ?_
    refine zV_bipush d_Fo_read_30 ?_
    refine zV_irem_p d_Fo_read_32 (by omega) (by omega) ?_
    refine zS_iast d_Fo_read_33 rfl rfl ⟨by omega, by omega⟩ ?_
    refine zV_iload_n d_Fo_read_34 rfl ?_
    refine zV_bipush d_Fo_read_35 ?_
    refine zV_idiv_p d_Fo_read_37 (by omega) (by omega) ?_
    refine zV_istore_n (L' := [some (2, 73), some (0, mode), some (0, f), some (0, (((f / 10) / 10) / 10)), some (0, 1)]) d_Fo_read_38 (by decide) rfl ?_
    refine zV_iinc (L' := [some (2, 73), some (0, mode), some (0, f), some (0, (((f / 10) / 10) / 10)), some (0, 0)]) d_Fo_read_39 (by decide) rfl rfl ?_
    refine zV_goto d_Fo_read_42 ?_
    refine zV_iload d_Fo_read_18 rfl ?_
    refine zV_if_lt d_Fo_read_20 (by omega) (fun c20 => absurd c20 (by omega)) (fun c20 => ?_)
    refine zV_aload_n d_Fo_read_23 rfl ?_
    refine zS_getr (r := 74) d_Fo_read_24 f_Fo_9 rfl rfl rfl ?_
    refine zV_iload d_Fo_read_27 rfl ?_
    refine zV_iload_n d_Fo_read_29 rfl ?_
    refine zV_bipush d_Fo_read_30 ?_
    refine zV_irem_p d_Fo_read_32 (by omega) (by omega) ?_
    refine zS_iast d_Fo_read_33 rfl rfl ⟨by omega, by omega⟩ ?_
    refine zV_iload_n d_Fo_read_34 rfl ?_
    refine zV_bipush d_Fo_read_35 ?_
    refine zV_idiv_p d_Fo_read_37 (by omega) (by omega) ?_
    refine zV_istore_n (L' := [some (2, 73), some (0, mode), some (0, f), some (0, ((((f / 10) / 10) / 10) / 10)), some (0, 0)]) d_Fo_read_38 (by decide) rfl ?_
    refine zV_iinc (L' := [some (2, 73), some (0, mode), some (0, f), some (0, ((((f / 10) / 10) / 10) / 10)), some (0, (-1))]) d_Fo_read_39 (by decide) rfl rfl ?_
    refine zV_goto d_Fo_read_42 ?_
    refine zV_iload d_Fo_read_18 rfl ?_
    refine zV_if_lt d_Fo_read_20 (by omega) (fun c20 => ?_) (fun c20 => absurd c20 (by omega))
    exact zS_vret d_Fo_read_45 rfl ⟨Nat.zero_le _, Nat.zero_le _⟩ (by refine ⟨rfl, ?_⟩; unfold rdF; first | rw [zb_t (by omega)] | rw [zb_f (by omega)])
  · refine zV_iconst d_Fo_read_5 ?_
    refine zV_goto d_Fo_read_6 ?_
    refine zS_putz d_Fo_read_10 f_Fo_15 rfl ⟨rfl, rfl⟩ rfl (Or.inr rfl) ?_
    refine zV_iload_n d_Fo_read_13 rfl ?_
    refine zV_istore_n (L' := [some (2, 73), some (0, mode), some (0, f), some (0, f), none]) d_Fo_read_14 (by decide) rfl ?_
    refine zV_iconst d_Fo_read_15 ?_
    refine zV_istore (L' := [some (2, 73), some (0, mode), some (0, f), some (0, f), some (0, 3)]) d_Fo_read_16 (by decide) rfl ?_
    refine zV_iload d_Fo_read_18 rfl ?_
    refine zV_if_lt d_Fo_read_20 (by omega) (fun c20 => absurd c20 (by omega)) (fun c20 => ?_)
    refine zV_aload_n d_Fo_read_23 rfl ?_
    refine zS_getr (r := 74) d_Fo_read_24 f_Fo_9 rfl rfl rfl ?_
    refine zV_iload d_Fo_read_27 rfl ?_
    refine zV_iload_n d_Fo_read_29 rfl ?_
    refine zV_bipush d_Fo_read_30 ?_
    refine zV_irem_p d_Fo_read_32 (by omega) (by omega) ?_
    refine zS_iast d_Fo_read_33 rfl rfl ⟨by omega, by omega⟩ ?_
    refine zV_iload_n d_Fo_read_34 rfl ?_
    refine zV_bipush d_Fo_read_35 ?_
    refine zV_idiv_p d_Fo_read_37 (by omega) (by omega) ?_
    refine zV_istore_n (L' := [some (2, 73), some (0, mode), some (0, f), some (0, (f / 10)), some (0, 3)]) d_Fo_read_38 (by decide) rfl ?_
    refine zV_iinc (L' := [some (2, 73), some (0, mode), some (0, f), some (0, (f / 10)), some (0, 2)]) d_Fo_read_39 (by decide) rfl rfl ?_
    refine zV_goto d_Fo_read_42 ?_
    refine zV_iload d_Fo_read_18 rfl ?_
    refine zV_if_lt d_Fo_read_20 (by omega) (fun c20 => absurd c20 (by omega)) (fun c20 => ?_)
    refine zV_aload_n d_Fo_read_23 rfl ?_
    refine zS_getr (r := 74) d_Fo_read_24 f_Fo_9 rfl rfl rfl ?_
    refine zV_iload d_Fo_read_27 rfl ?_
    refine zV_iload_n d_Fo_read_29 rfl ?_
    refine zV_bipush d_Fo_read_30 ?_
    refine zV_irem_p d_Fo_read_32 (by omega) (by omega) ?_
    refine zS_iast d_Fo_read_33 rfl rfl ⟨by omega, by omega⟩ ?_
    refine zV_iload_n d_Fo_read_34 rfl ?_
    refine zV_bipush d_Fo_read_35 ?_
    refine zV_idiv_p d_Fo_read_37 (by omega) (by omega) ?_
    refine zV_istore_n (L' := [some (2, 73), some (0, mode), some (0, f), some (0, ((f / 10) / 10)), some (0, 2)]) d_Fo_read_38 (by decide) rfl ?_
    refine zV_iinc (L' := [some (2, 73), some (0, mode), some (0, f), some (0, ((f / 10) / 10)), some (0, 1)]) d_Fo_read_39 (by decide) rfl rfl ?_
    refine zV_goto d_Fo_read_42 ?_
    refine zV_iload d_Fo_read_18 rfl ?_
    refine zV_if_lt d_Fo_read_20 (by omega) (fun c20 => absurd c20 (by omega)) (fun c20 => ?_)
    refine zV_aload_n d_Fo_read_23 rfl ?_
    refine zS_getr (r := 74) d_Fo_read_24 f_Fo_9 rfl rfl rfl ?_
    refine zV_iload d_Fo_read_27 rfl ?_
    refine zV_iload_n d_Fo_read_29 rfl ?_
    refine zV_bipush d_Fo_read_30 ?_
    refine zV_irem_p d_Fo_read_32 (by omega) (by omega) ?_
    refine zS_iast d_Fo_read_33 rfl rfl ⟨by omega, by omega⟩ ?_
    refine zV_iload_n d_Fo_read_34 rfl ?_
    refine zV_bipush d_Fo_read_35 ?_
    refine zV_idiv_p d_Fo_read_37 (by omega) (by omega) ?_
    refine zV_istore_n (L' := [some (2, 73), some (0, mode), some (0, f), some (0, (((f / 10) / 10) / 10)), some (0, 1)]) d_Fo_read_38 (by decide) rfl ?_
    refine zV_iinc (L' := [some (2, 73), some (0, mode), some (0, f), some (0, (((f / 10) / 10) / 10)), some (0, 0)]) d_Fo_read_39 (by decide) rfl rfl ?_
    refine zV_goto d_Fo_read_42 ?_
    refine zV_iload d_Fo_read_18 rfl ?_
    refine zV_if_lt d_Fo_read_20 (by omega) (fun c20 => absurd c20 (by omega)) (fun c20 => ?_)
    refine zV_aload_n d_Fo_read_23 rfl ?_
    refine zS_getr (r := 74) d_Fo_read_24 f_Fo_9 rfl rfl rfl ?_
    refine zV_iload d_Fo_read_27 rfl ?_
    refine zV_iload_n d_Fo_read_29 rfl ?_
    refine zV_bipush d_Fo_read_30 ?_
    refine zV_irem_p d_Fo_read_32 (by omega) (by omega) ?_
    refine zS_iast d_Fo_read_33 rfl rfl ⟨by omega, by omega⟩ ?_
    refine zV_iload_n d_Fo_read_34 rfl ?_
    refine zV_bipush d_Fo_read_35 ?_
    refine zV_idiv_p d_Fo_read_37 (by omega) (by omega) ?_
    refine zV_istore_n (L' := [some (2, 73), some (0, mode), some (0, f), some (0, ((((f / 10) / 10) / 10) / 10)), some (0, 0)]) d_Fo_read_38 (by decide) rfl ?_
    refine zV_iinc (L' := [some (2, 73), some (0, mode), some (0, f), some (0, ((((f / 10) / 10) / 10) / 10)), some (0, (-1))]) d_Fo_read_39 (by decide) rfl rfl ?_
    refine zV_goto d_Fo_read_42 ?_
    refine zV_iload d_Fo_read_18 rfl ?_
    refine zV_if_lt d_Fo_read_20 (by omega) (fun c20 => ?_) (fun c20 => absurd c20 (by omega))
    exact zS_vret d_Fo_read_45 rfl ⟨Nat.zero_le _, Nat.zero_le _⟩ (by refine ⟨rfl, ?_⟩; unfold rdF; first | rw [zb_t (by omega)] | rw [zb_f (by omega)])
