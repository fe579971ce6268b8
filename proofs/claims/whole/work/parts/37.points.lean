/-! stacks, built: all points -/
theorem ro_lo {t k : Int} (hk : k < 9) : ¬ isRo t (t + k) := fun z => by have z9 : t + 9 ≤ t + k ∧ t + k < t + 21 := z; omega
theorem frE_a {t k : Int} {m0 m : zMem} (h : frE t m0 m) (hk : 1 < k ∧ k < 9) : m (t + k) = m0 (t + k) := h.1 _ (by omega) (by omega) (ro_lo hk.2)
theorem meP_fr {t : Int} {m0 m : zMem} (h : frE t m0 m) : meP m t = meP m0 t := by
  funext s a b
  unfold meP
  rw [frE_a h (k := 4) (by omega), frE_a h (k := 5) (by omega), frE_a h (k := 6) (by omega), frE_a h (k := 7) (by omega)]
theorem okC_fe {t : Int} {m0 m : zMem} (h : frE t m0 m) (hC : okC m0 t) : okC m t := by
  unfold okC
  rw [frE_a h (k := 4) (by omega), frE_a h (k := 5) (by omega), frE_a h (k := 6) (by omega), frE_a h (k := 7) (by omega), h.2 3 (by omega)]
  exact hC
noncomputable def stO (m2 : zMem) (t a : Int) (s : PtS) : PtS := zfo (fun b s => meP m2 t s a b) (a - 0).toNat 0 (cif (m2 (t + 4) a = 1) (enR s (m2 (t + 7) a) 0 0 1) s)
/-- all points of the curves at work -/
noncomputable def allP (m2 : zMem) (t : Int) (s : PtS) : PtS := zfo (fun a s => stO m2 t a s) (m2 t 3 - 0).toNat 0 s
theorem s_St_build_45 (m2 : zMem) (t : Int) (h : isSt t) (hC0 : okC m2 t) (a : Int) (ha : 0 ≤ a ∧ a < m2 t 3) (q : PtS) (Q9 : zQ2) (kk : ∀ m, PS m t q → frE t m2 m → zS zT m_St_build (0, 0) 62 [some (2, t), none, some (0, a), none] [] m (zQs Q9)) : ∀ (b : Int) (m : zMem) (s : PtS), (0 ≤ b ∧ b ≤ a) → (PS m t s) → (frE t m2 m) → (zfo (fun b s => meP m2 t s a b) (a - b).toNat b s = q) → zS zT m_St_build (0, 0) 45 [some (2, t), none, some (0, a), some (0, b)] [] m (zQs (Q9)) := by
  intro b m s
  obtain ⟨k9, hk9⟩ : ∃ kq : Nat, (a - b).toNat = kq := ⟨_, rfl⟩
  induction k9 using Nat.strongRecOn generalizing b m s with
  | _ k9 ih =>
    intro i0 i1 i2 i3
    have hC := okC_fe i2 hC0
    have k1 := hC0.1
    refine zV_iload_n d_St_build_45 rfl ?_
    refine zV_iload_n d_St_build_46 rfl ?_
    refine zV_icmp_ge d_St_build_47 (by omega) (by omega) (fun c47 => ?_) (fun c47 => ?_)
    · refine zV_forget (L' := [some (2, t), none, some (0, a), none]) (by simp [zle]) ?_
      refine kk m ?_ i2
      rw [zfo_e (n := a) (by omega)] at i3
      rw [← i3]
      exact i1
    · refine zV_aload_n d_St_build_50 rfl ?_
      refine zV_iload_n d_St_build_51 rfl ?_
      refine zV_iload_n d_St_build_52 rfl ?_
      refine zS_invv (mt' := m_St_meet) (avs := [(0, a), (0, b)]) (st := []) d_St_build_53 l_St_59 k_St_meet (kSt0 h) rfl rfl rfl rfl (s_St_meet m t a b h hC ⟨by omega, by omega⟩ ⟨by omega, by omega⟩ s i1) (fun r9 m9 hq9 => ?_)
      obtain ⟨rfl, hp1, hf1⟩ := hq9
      show zS zT m_St_build (0, 0) 56 [some (2, t), none, some (0, a), some (0, b)] [] m9 _
      refine zV_iinc (L' := [some (2, t), none, some (0, a), some (0, (b + 1))]) d_St_build_56 (by decide) rfl rfl ?_
      refine zV_goto d_St_build_59 ?_
      refine ih _ (by omega) (b + 1) m9 (meP m2 t s a b) rfl (by omega) (by rw [← meP_fr i2]; exact hp1) (frE_t i2 hf1) ?_
      rw [← i3, zfo_s (n := a) (i := b) (by omega)]
theorem s_St_build_62 (m : zMem) (t a : Int) (ha : 0 ≤ a ∧ a < 4) (Q9 : zQ2) (kk : zS zT m_St_build (0, 0) 12 [some (2, t), none, some (0, (a + 1)), none] [] m (zQs Q9)) : zS zT m_St_build (0, 0) 62 [some (2, t), none, some (0, a), none] [] m (zQs Q9) := by
  refine zV_iinc (L' := [some (2, t), none, some (0, (a + 1)), none]) d_St_build_62 (by decide) rfl rfl ?_
  refine zV_goto d_St_build_65 ?_
  exact kk
theorem s_St_build_12 (m2 : zMem) (t : Int) (h : isSt t) (hC0 : okC m2 t) (q : PtS) (Q9 : zQ2) (kk : ∀ m, PS m t q → frE t m2 m → zS zT m_St_build (0, 0) 68 [some (2, t), none, none, none] [] m (zQs Q9)) : ∀ (a : Int) (m : zMem) (s : PtS), (0 ≤ a ∧ a ≤ m2 t 3) → (PS m t s) → (frE t m2 m) → (zfo (fun a s => stO m2 t a s) (m2 t 3 - a).toNat a s = q) → zS zT m_St_build (0, 0) 12 [some (2, t), none, some (0, a), none] [] m (zQs (Q9)) := by
  intro a m s
  obtain ⟨k9, hk9⟩ : ∃ kq : Nat, (m2 t 3 - a).toNat = kq := ⟨_, rfl⟩
  induction k9 using Nat.strongRecOn generalizing a m s with
  | _ k9 ih =>
    intro i0 i1 i2 i3
    have hC := okC_fe i2 hC0
    have k1 := hC0.1
    have e3 : m t 3 = m2 t 3 := i2.2 3 (by omega)
    have e4 : m (t + 4) a = m2 (t + 4) a := by rw [frE_a i2 (k := 4) (by omega)]
    have e7 : m (t + 7) a = m2 (t + 7) a := by rw [frE_a i2 (k := 7) (by omega)]
    have ga := fun q => hC0.2 a i0.1 q
    refine zV_iload_n d_St_build_12 rfl ?_
    refine zV_aload_n d_St_build_13 rfl ?_
    refine zS_get d_St_build_14 f_St_24 (kSt0 h) rfl ?_
    refine zV_icmp_ge d_St_build_17 (by omega) (by omega) (fun c17 => ?_) (fun c17 => ?_)
    · refine zV_forget (L' := [some (2, t), none, none, none]) (by simp [zle]) ?_
      refine kk m ?_ i2
      rw [zfo_e (n := m2 t 3) (by omega)] at i3
      rw [← i3]
      exact i1
    · refine zV_aload_n d_St_build_20 rfl ?_
      refine zS_getr (r := (t + 4)) d_St_build_21 f_St_34 (kSt0 h) rfl rfl ?_
      refine zV_iload_n d_St_build_24 rfl ?_
      refine zS_zald d_St_build_25 (kSt4 h) rfl ⟨by omega, by omega⟩ ?_
      refine zV_if_eq d_St_build_26 (by omega) (fun c26 => ?_) (fun c26 => ?_)
      · refine zV_iconst d_St_build_43 ?_
        refine zV_istore_n (L' := [some (2, t), none, some (0, a), some (0, 0)]) d_St_build_44 (by decide) rfl ?_
        have hst : stO m2 t a s = zfo (fun b s => meP m2 t s a b) (a - 0).toNat 0 s := by
          unfold stO
          rw [cif_f (by omega)]
        refine s_St_build_45 m2 t h hC0 a ⟨i0.1, by omega⟩ (stO m2 t a s) _ (fun m1 p1 p2 => ?_) 0 m s ⟨by omega, i0.1⟩ i1 i2 hst.symm
        refine s_St_build_62 m1 t a (by omega) _ (ih _ (by omega) (a + 1) m1 (stO m2 t a s) rfl ⟨by omega, by omega⟩ p1 p2 ?_)
        rw [← i3, zfo_s (n := m2 t 3) (i := a) (by omega)]
      · refine zV_aload_n d_St_build_29 rfl ?_
        refine zV_aload_n d_St_build_30 rfl ?_
        refine zS_getr (r := (t + 7)) d_St_build_31 f_St_44 (kSt0 h) rfl rfl ?_
        refine zV_iload_n d_St_build_34 rfl ?_
        refine zS_iald d_St_build_35 (kSt7 h) rfl ⟨by omega, by omega⟩ ?_
        refine zV_i2l d_St_build_36 (by omega) ?_
        refine zV_lconst0 d_St_build_37 ?_
        refine zV_lconst0 d_St_build_38 ?_
        refine zV_lconst1 d_St_build_39 ?_
        refine zS_invv (mt' := m_St_enter) (avs := [(1, (m (t + 7) a)), (1, 0), (1, 0), (1, 1)]) (st := []) d_St_build_40 l_St_55 k_St_enter (kSt0 h) rfl rfl rfl rfl (s_St_enter m t (m (t + 7) a) 0 0 1 h (by omega) s i1 (fun z => okP_tn (by omega) (by omega) (by omega) (by omega) z)) (fun r9 m9 hq9 => ?_)
        obtain ⟨rfl, hp1, hf1⟩ := hq9
        show zS zT m_St_build (0, 0) 43 [some (2, t), none, some (0, a), none] [] m9 _
        refine zV_iconst d_St_build_43 ?_
        refine zV_istore_n (L' := [some (2, t), none, some (0, a), some (0, 0)]) d_St_build_44 (by decide) rfl ?_
        have hst : stO m2 t a s = zfo (fun b s => meP m2 t s a b) (a - 0).toNat 0 (enR s (m2 (t + 7) a) 0 0 1) := by
          unfold stO
          rw [cif_t (by omega)]
        refine s_St_build_45 m2 t h hC0 a ⟨i0.1, by omega⟩ (stO m2 t a s) _ (fun m1 p1 p2 => ?_) 0 m9 (enR s (m2 (t + 7) a) 0 0 1) ⟨by omega, i0.1⟩ (by rw [← e7]; exact hp1) (frE_t i2 hf1) hst.symm
        refine s_St_build_62 m1 t a (by omega) _ (ih _ (by omega) (a + 1) m1 (stO m2 t a s) rfl ⟨by omega, by omega⟩ p1 p2 ?_)
        rw [← i3, zfo_s (n := m2 t 3) (i := a) (by omega)]
