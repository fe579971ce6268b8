/-! the reference: points told -/
theorem nsqN : ∀ d : Fin 501, rtD (d.val : Int) * rtD (d.val : Int) ≠ (d.val : Int) → rtD (1000000 * (d.val : Int)) * rtD (1000000 * (d.val : Int)) ≠ 1000000 * (d.val : Int) := by decide +kernel
theorem nsq {d : Int} (h : 0 ≤ d ∧ d ≤ 500) (hn : rtD d * rtD d ≠ d) : rtD (1000000 * d) * rtD (1000000 * d) ≠ 1000000 * d := by
  have z := nsqN ⟨d.toNat, by omega⟩
  have e : ((d.toNat : Nat) : Int) = d := by omega
  simp only [e] at z
  exact z hn
theorem sg3_v {u v d : Int} (hd : 0 ≤ d) : (0 ≤ u → 0 ≤ v → 0 ≤ sg3 u v d) ∧ (u < 0 → 0 < v → 0 < d → u * u ≤ v * v * d → 0 ≤ sg3 u v d) ∧ (u < 0 → 0 < v → 0 < d → v * v * d < u * u → sg3 u v d < 0) ∧ (0 < u → v < 0 → 0 < d → u * u < v * v * d → sg3 u v d < 0) ∧ (0 < u → v < 0 → 0 < d → v * v * d ≤ u * u → 0 ≤ sg3 u v d) ∧ (u ≤ 0 → v < 0 → 0 < d → sg3 u v d < 0) := by
  unfold sg3 cmpI
  refine ⟨fun a b => ?_, fun a b c e => ?_, fun a b c e => ?_, fun a b c e => ?_, fun a b c e => ?_, fun a b c => ?_⟩ <;> (repeat' split) <;> omega
theorem fl_th {P : Pt} {v : Int} (hP : okQ P) (hN : okN P) (h : flR P 1000 v) : v = thP P := by
  obtain ⟨⟨p1, p2, p3, p4⟩, hc⟩ := hP
  obtain ⟨h1, h2, h3⟩ := h
  obtain ⟨r1, r2⟩ := rtD_sp (n := 1000000 * P.2.2.1) (by omega) (by omega)
  have r0 := (rtD_r (1000000 * P.2.2.1)).1
  have div : ∀ y : Int, 0 ≤ y - v * P.2.2.2 → y - v * P.2.2.2 < P.2.2.2 → v = y / P.2.2.2 := fun y a b => by
    have e : y = (y - v * P.2.2.2) + v * P.2.2.2 := by omega
    rw [e, Int.add_mul_ediv_right _ _ (by omega), Int.ediv_eq_zero_of_lt a b, Int.zero_add]
  unfold cmF at h1 h2
  have ev : (v + 1) * P.2.2.2 = v * P.2.2.2 + P.2.2.2 := by rw [Int.add_mul, Int.one_mul]
  rw [ev] at h2
  unfold thP
  rcases hc with ⟨c1, c2⟩ | ⟨c1, c2, c3, c4⟩
  · rw [c1, c2] at h1 h2
    rw [c1, if_neg (by decide), if_neg (by decide), Int.add_zero]
    have e0 : ∀ u : Int, sg3 u (1000 * 0) 0 = cmpI u 0 := fun u => by
      unfold sg3 cmpI
      (repeat' split) <;> omega
    rw [e0] at h1 h2
    refine div _ ?_ ?_
    · unfold cmpI at h1; (repeat' split at h1) <;> omega
    · unfold cmpI at h2; (repeat' split at h2) <;> omega
  · have hd : 0 < P.2.2.1 := by omega
    have hns : rtD P.2.2.1 * rtD P.2.2.1 ≠ P.2.2.1 := by
      intro z
      unfold okN nrm at hN
      rw [if_pos z] at hN
      have := congrArg (fun q => q.2.1) hN
      simp only at this
      omega
    have hns2 := nsq (d := P.2.2.1) ⟨by omega, p3.2⟩ hns
    obtain ⟨s1, s2, s3, s4, s5, s6⟩ := sg3_v (u := 1000 * P.1 - v * P.2.2.2) (v := 1000 * P.2.1) (d := P.2.2.1) (by omega)
    obtain ⟨t1, t2, t3, t4, t5, t6⟩ := sg3_v (u := 1000 * P.1 - (v * P.2.2.2 + P.2.2.2)) (v := 1000 * P.2.1) (d := P.2.2.1) (by omega)
    generalize hX : 1000 * P.1 - v * P.2.2.2 = X at *
    generalize hY : 1000 * P.1 - (v * P.2.2.2 + P.2.2.2) = Y at *
    generalize rtD (1000000 * P.2.2.1) = ρ at *
    rcases c1 with e | e
    · rw [e] at h1 h2 s1 s2 s3 s4 s5 s6 t1 t2 t3 t4 t5 t6
      rw [e, if_pos (by decide)]
      refine div _ ?_ ?_
      · show 0 ≤ 1000 * P.1 + ρ - v * P.2.2.2
        have : -X ≤ ρ := by
          apply Int.not_lt.mp
          intro z
          have q := Int.mul_le_mul (show ρ + 1 ≤ -X by omega) (show ρ + 1 ≤ -X by omega) (by omega) (by omega)
          rw [Int.neg_mul_neg] at q
          have := s3 (by omega) (by omega) hd (by omega)
          omega
        omega
      · show 1000 * P.1 + ρ - v * P.2.2.2 < P.2.2.2
        have : ρ < -Y := by
          apply Int.not_le.mp
          intro z
          by_cases y0 : 0 ≤ Y
          · have := t1 y0 (by omega)
            omega
          · have q := Int.mul_le_mul z z (by omega) (by omega)
            rw [Int.neg_mul_neg] at q
            have := t2 (by omega) (by omega) hd (by omega)
            omega
        omega
    · rw [e] at h1 h2 s1 s2 s3 s4 s5 s6 t1 t2 t3 t4 t5 t6
      rw [e, if_neg (by decide), if_pos (by decide)]
      refine div _ ?_ ?_
      · show 0 ≤ 1000 * P.1 + (-ρ - 1) - v * P.2.2.2
        have : ρ < X := by
          apply Int.not_le.mp
          intro z
          by_cases y0 : X ≤ 0
          · have := s6 y0 (by omega) hd
            omega
          · have q := Int.mul_le_mul z z (by omega) (by omega)
            have := s4 (by omega) (by omega) hd (by omega)
            omega
        omega
      · show 1000 * P.1 + (-ρ - 1) - v * P.2.2.2 < P.2.2.2
        have : Y ≤ ρ := by
          apply Int.not_lt.mp
          intro z
          have q := Int.mul_le_mul (show ρ + 1 ≤ Y by omega) (show ρ + 1 ≤ Y by omega) (by omega) (by omega)
          have := t5 (by omega) (by omega) hd (by omega)
          omega
        omega
def mtM (mem : zMem) (p k n : Int) : Prop := mem 82 k ≠ 3 ∧ mem 82 n ≠ 3 ∧ ¬ smP mem k n ∧ dfM mem k n p = 0
noncomputable def meR (mem : zMem) (p k : Int) : Int := zsm (fun n => zb (mtM mem p k n)) (k - 0).toNat 0
noncomputable def meS (mem : zMem) (p : Int) : Int := zsm (meR mem p) (mem 80 2 - 0).toNat 0
noncomputable def stS (mem : zMem) (p : Int) : Int := zsm (fun k => zb (mem 82 k = 3 ∧ cmF (mP mem p) (mem 84 k) 1 = 0)) (mem 80 2 - 0).toNat 0
theorem s_Mo_meeting_15 (mem : zMem) (p : Int) (hK : moK mem) (hp : 0 ≤ p ∧ p < 64) (hQ : okQ (mP mem p)) (k : Int) (hk : 0 ≤ k ∧ k < mem 80 2) (q : Int) (Q9 : zQ2) (kk : zS zT m_Mo_meeting (0, 0) 73 [some (2, 80), some (0, p), some (0, q), some (0, k), none] [] mem (zQs Q9)) : ∀ (n : Int) (acc : Int), (0 ≤ n ∧ n ≤ k) → (acc + zsm (fun n => zb (mtM mem p k n)) (k - n).toNat n = q) → zS zT m_Mo_meeting (0, 0) 15 [some (2, 80), some (0, p), some (0, acc), some (0, k), some (0, n)] [] mem (zQs (Q9)) := by
  intro n acc
  obtain ⟨k9, hk9⟩ : ∃ kq : Nat, (k - n).toNat = kq := ⟨_, rfl⟩
  induction k9 using Nat.strongRecOn generalizing n acc with
  | _ k9 ih =>
    intro i0 i1
    have k1 := hK.1
    refine zV_iload d_Mo_meeting_15 rfl ?_
    refine zV_iload_n d_Mo_meeting_17 rfl ?_
    refine zV_icmp_ge d_Mo_meeting_18 (by omega) (by omega) (fun c18 => ?_) (fun c18 => ?_)
    · refine zV_forget (L' := [some (2, 80), some (0, p), some (0, acc), some (0, k), none]) (by simp [zle]) ?_
      rw [zsm_e (n := k) (by omega), Int.add_zero] at i1
      rw [i1]
      exact kk
    · refine zV_iload_n d_Mo_meeting_21 rfl ?_
      refine zV_aload_n d_Mo_meeting_22 rfl ?_
      refine zV_iload_n d_Mo_meeting_23 rfl ?_
      refine zS_invvE (mt' := m_Mo_isFlat) (avs := [(0, k)]) (st := [(0, acc)]) d_Mo_meeting_24 l_Mo_173 k_Mo_isFlat rfl rfl rfl rfl rfl (s_Mo_isFlat mem k hK (by omega)) ?_
      show zS zT m_Mo_meeting (0, 0) 27 [some (2, 80), some (0, p), some (0, acc), some (0, k), some (0, n)] [(0, (zb (mem 82 k = 3))), (0, acc)] mem _
      refine zV_ifb_ne d_Mo_meeting_27 (fun c27 => ?_) (fun c27 => ?_)
      · refine zV_iconst d_Mo_meeting_64 ?_
        refine zV_iadd d_Mo_meeting_65 ?_
        refine zV_istore_n (L' := [some (2, 80), some (0, p), some (0, (acc + 0)), some (0, k), some (0, n)]) d_Mo_meeting_66 (by decide) rfl ?_
        refine zV_iinc (L' := [some (2, 80), some (0, p), some (0, (acc + 0)), some (0, k), some (0, (n + 1))]) d_Mo_meeting_67 (by decide) rfl rfl ?_
        refine zV_goto d_Mo_meeting_70 ?_
        refine ih _ (by omega) (n + 1) _ rfl (by omega) ?_
        rw [← i1, zsm_s (n := k) (i := n) (by omega)]
        first | rw [zb_t (show mtM mem p k n from ⟨by assumption, by assumption, by assumption, by assumption⟩)] | rw [zb_f (show ¬ mtM mem p k n from fun z => by first | exact absurd z.1 (by omega) | exact absurd z.2.1 (by omega) | exact absurd (by assumption) z.2.2.1 | exact absurd z.2.2.2 (by assumption))]
        omega
      · refine zV_aload_n d_Mo_meeting_30 rfl ?_
        refine zV_iload d_Mo_meeting_31 rfl ?_
        refine zS_invvE (mt' := m_Mo_isFlat) (avs := [(0, n)]) (st := [(0, acc)]) d_Mo_meeting_33 l_Mo_173 k_Mo_isFlat rfl rfl rfl rfl rfl (s_Mo_isFlat mem n hK (by omega)) ?_
        show zS zT m_Mo_meeting (0, 0) 36 [some (2, 80), some (0, p), some (0, acc), some (0, k), some (0, n)] [(0, (zb (mem 82 n = 3))), (0, acc)] mem _
        refine zV_ifb_ne d_Mo_meeting_36 (fun c36 => ?_) (fun c36 => ?_)
        · refine zV_iconst d_Mo_meeting_64 ?_
          refine zV_iadd d_Mo_meeting_65 ?_
          refine zV_istore_n (L' := [some (2, 80), some (0, p), some (0, (acc + 0)), some (0, k), some (0, n)]) d_Mo_meeting_66 (by decide) rfl ?_
          refine zV_iinc (L' := [some (2, 80), some (0, p), some (0, (acc + 0)), some (0, k), some (0, (n + 1))]) d_Mo_meeting_67 (by decide) rfl rfl ?_
          refine zV_goto d_Mo_meeting_70 ?_
          refine ih _ (by omega) (n + 1) _ rfl (by omega) ?_
          rw [← i1, zsm_s (n := k) (i := n) (by omega)]
          first | rw [zb_t (show mtM mem p k n from ⟨by assumption, by assumption, by assumption, by assumption⟩)] | rw [zb_f (show ¬ mtM mem p k n from fun z => by first | exact absurd z.1 (by omega) | exact absurd z.2.1 (by omega) | exact absurd (by assumption) z.2.2.1 | exact absurd z.2.2.2 (by assumption))]
          omega
        · refine zV_aload_n d_Mo_meeting_39 rfl ?_
          refine zV_iload_n d_Mo_meeting_40 rfl ?_
          refine zV_iload d_Mo_meeting_41 rfl ?_
          refine zS_invvE (mt' := m_Mo_isSame) (avs := [(0, k), (0, n)]) (st := [(0, acc)]) d_Mo_meeting_43 l_Mo_286 k_Mo_isSame rfl rfl rfl rfl rfl (s_Mo_isSame mem k n hK (by omega) (by omega)) ?_
          show zS zT m_Mo_meeting (0, 0) 46 [some (2, 80), some (0, p), some (0, acc), some (0, k), some (0, n)] [(0, (zb (smP mem k n))), (0, acc)] mem _
          refine zV_ifb_ne d_Mo_meeting_46 (fun c46 => ?_) (fun c46 => ?_)
          · refine zV_iconst d_Mo_meeting_64 ?_
            refine zV_iadd d_Mo_meeting_65 ?_
            refine zV_istore_n (L' := [some (2, 80), some (0, p), some (0, (acc + 0)), some (0, k), some (0, n)]) d_Mo_meeting_66 (by decide) rfl ?_
            refine zV_iinc (L' := [some (2, 80), some (0, p), some (0, (acc + 0)), some (0, k), some (0, (n + 1))]) d_Mo_meeting_67 (by decide) rfl rfl ?_
            refine zV_goto d_Mo_meeting_70 ?_
            refine ih _ (by omega) (n + 1) _ rfl (by omega) ?_
            rw [← i1, zsm_s (n := k) (i := n) (by omega)]
            first | rw [zb_t (show mtM mem p k n from ⟨by assumption, by assumption, by assumption, by assumption⟩)] | rw [zb_f (show ¬ mtM mem p k n from fun z => by first | exact absurd z.1 (by omega) | exact absurd z.2.1 (by omega) | exact absurd (by assumption) z.2.2.1 | exact absurd z.2.2.2 (by assumption))]
            omega
          · refine zV_aload_n d_Mo_meeting_49 rfl ?_
            refine zV_iload_n d_Mo_meeting_50 rfl ?_
            refine zV_iload d_Mo_meeting_51 rfl ?_
            refine zV_iload_n d_Mo_meeting_53 rfl ?_
            refine zS_invvE (mt' := m_Mo_difference) (avs := [(0, k), (0, n), (0, p)]) (st := [(0, acc)]) d_Mo_meeting_54 l_Mo_190 k_Mo_difference rfl rfl rfl rfl rfl (s_Mo_difference mem k n p hK (by omega) (by omega) hp (Or.inl hQ.1)) ?_
            show zS zT m_Mo_meeting (0, 0) 57 [some (2, 80), some (0, p), some (0, acc), some (0, k), some (0, n)] [(0, (dfM mem k n p)), (0, acc)] mem _
            refine zV_if_ne d_Mo_meeting_57 (sg3_i _ _ _) (fun c57 => ?_) (fun c57 => ?_)
            · refine zV_iconst d_Mo_meeting_64 ?_
              refine zV_iadd d_Mo_meeting_65 ?_
              refine zV_istore_n (L' := [some (2, 80), some (0, p), some (0, (acc + 0)), some (0, k), some (0, n)]) d_Mo_meeting_66 (by decide) rfl ?_
              refine zV_iinc (L' := [some (2, 80), some (0, p), some (0, (acc + 0)), some (0, k), some (0, (n + 1))]) d_Mo_meeting_67 (by decide) rfl rfl ?_
              refine zV_goto d_Mo_meeting_70 ?_
              refine ih _ (by omega) (n + 1) _ rfl (by omega) ?_
              rw [← i1, zsm_s (n := k) (i := n) (by omega)]
              first | rw [zb_t (show mtM mem p k n from ⟨by assumption, by assumption, by assumption, by assumption⟩)] | rw [zb_f (show ¬ mtM mem p k n from fun z => by first | exact absurd z.1 (by omega) | exact absurd z.2.1 (by omega) | exact absurd (by assumption) z.2.2.1 | exact absurd z.2.2.2 (by assumption))]
              omega
            · refine zV_iconst d_Mo_meeting_60 ?_
              refine zV_goto d_Mo_meeting_61 ?_
              refine zV_iadd d_Mo_meeting_65 ?_
              refine zV_istore_n (L' := [some (2, 80), some (0, p), some (0, (acc + 1)), some (0, k), some (0, n)]) d_Mo_meeting_66 (by decide) rfl ?_
              refine zV_iinc (L' := [some (2, 80), some (0, p), some (0, (acc + 1)), some (0, k), some (0, (n + 1))]) d_Mo_meeting_67 (by decide) rfl rfl ?_
              refine zV_goto d_Mo_meeting_70 ?_
              refine ih _ (by omega) (n + 1) _ rfl (by omega) ?_
              rw [← i1, zsm_s (n := k) (i := n) (by omega)]
              first | rw [zb_t (show mtM mem p k n from ⟨by assumption, by assumption, by assumption, by assumption⟩)] | rw [zb_f (show ¬ mtM mem p k n from fun z => by first | exact absurd z.1 (by omega) | exact absurd z.2.1 (by omega) | exact absurd (by assumption) z.2.2.1 | exact absurd z.2.2.2 (by assumption))]
              omega
theorem s_Mo_meeting_73 (mem : zMem) (p acc k : Int) (hk : 0 ≤ k ∧ k < 4) (Q9 : zQ2) (kk : zS zT m_Mo_meeting (0, 0) 4 [some (2, 80), some (0, p), some (0, acc), some (0, (k + 1)), none] [] mem (zQs Q9)) : zS zT m_Mo_meeting (0, 0) 73 [some (2, 80), some (0, p), some (0, acc), some (0, k), none] [] mem (zQs Q9) := by
  refine zV_iinc (L' := [some (2, 80), some (0, p), some (0, acc), some (0, (k + 1)), none]) d_Mo_meeting_73 (by decide) rfl rfl ?_
  refine zV_goto d_Mo_meeting_76 ?_
  exact kk
theorem s_Mo_meeting_4 (mem : zMem) (p : Int) (hK : moK mem) (hp : 0 ≤ p ∧ p < 64) (hQ : okQ (mP mem p)) (q : Int) : ∀ (k : Int) (acc : Int), (0 ≤ k ∧ k ≤ mem 80 2) → (acc + zsm (meR mem p) (mem 80 2 - k).toNat k = q) → zS zT m_Mo_meeting (0, 0) 4 [some (2, 80), some (0, p), some (0, acc), some (0, k), none] [] mem (zQs (fun r m => r = some (0, q) ∧ m = mem)) := by
  intro k acc
  obtain ⟨k9, hk9⟩ : ∃ kq : Nat, (mem 80 2 - k).toNat = kq := ⟨_, rfl⟩
  induction k9 using Nat.strongRecOn generalizing k acc with
  | _ k9 ih =>
    intro i0 i1
    have k1 := hK.1
    refine zV_iload_n d_Mo_meeting_4 rfl ?_
    refine zV_aload_n d_Mo_meeting_5 rfl ?_
    refine zS_get d_Mo_meeting_6 f_Mo_103 rfl rfl ?_
    refine zV_icmp_ge d_Mo_meeting_9 (by omega) (by omega) (fun c9 => ?_) (fun c9 => ?_)
    · refine zV_iload_n d_Mo_meeting_79 rfl ?_
      exact zS_iret d_Mo_meeting_80 rfl ⟨Nat.zero_le _, Nat.zero_le _⟩ ⟨by rw [← i1, zsm_e (n := mem 80 2) (by omega), Int.add_zero], rfl⟩
    · refine zV_iconst d_Mo_meeting_12 ?_
      refine zV_istore (L' := [some (2, 80), some (0, p), some (0, acc), some (0, k), some (0, 0)]) d_Mo_meeting_13 (by decide) rfl ?_
      refine s_Mo_meeting_15 mem p hK hp hQ k ⟨i0.1, by omega⟩ (acc + meR mem p k) _ ?_ 0 acc (by omega) rfl
      refine s_Mo_meeting_73 mem p _ k (by omega) _ (ih _ (by omega) (k + 1) _ rfl (by omega) ?_)
      rw [← i1, zsm_s (n := mem 80 2) (i := k) (by omega)]
      omega
theorem s_Mo_meeting (mem : zMem) (p : Int) (hK : moK mem) (hp : 0 ≤ p ∧ p < 64) (hQ : okQ (mP mem p)) : zF m_Mo_meeting [(2, 80), (0, p)] mem (fun r m => r = some (0, meS mem p) ∧ m = mem) := by
  have k1 := hK.1
  refine zF_of (by decide) (Nat.le_of_ble_eq_true rfl) ?_
  show zS zT m_Mo_meeting (0, 0) 0 [some (2, 80), some (0, p), none, none, none] [] mem _
  refine zV_iconst d_Mo_meeting_0 ?_
  refine zV_istore_n (L' := [some (2, 80), some (0, p), some (0, 0), none, none]) d_Mo_meeting_1 (by decide) rfl ?_
  refine zV_iconst d_Mo_meeting_2 ?_
  refine zV_istore_n (L' := [some (2, 80), some (0, p), some (0, 0), some (0, 0), none]) d_Mo_meeting_3 (by decide) rfl ?_
  exact s_Mo_meeting_4 mem p hK hp hQ _ 0 0 (by omega) (by rw [Int.zero_add]; rfl)
theorem s_Mo_standing_4 (mem : zMem) (p : Int) (hK : moK mem) (hp : 0 ≤ p ∧ p < 64) (hQ : okQ (mP mem p)) (q : Int) : ∀ (k : Int) (acc : Int), (0 ≤ k ∧ k ≤ mem 80 2) → (acc + zsm (fun k => zb (mem 82 k = 3 ∧ cmF (mP mem p) (mem 84 k) 1 = 0)) (mem 80 2 - k).toNat k = q) → zS zT m_Mo_standing (0, 0) 4 [some (2, 80), some (0, p), some (0, acc), some (0, k)] [] mem (zQs (fun r m => r = some (0, q) ∧ m = mem)) := by
  intro k acc
  obtain ⟨k9, hk9⟩ : ∃ kq : Nat, (mem 80 2 - k).toNat = kq := ⟨_, rfl⟩
  induction k9 using Nat.strongRecOn generalizing k acc with
  | _ k9 ih =>
    intro i0 i1
    have k1 := hK.1
    have k2 := hK.2 k i0.1
    refine zV_iload_n d_Mo_standing_4 rfl ?_
    refine zV_aload_n d_Mo_standing_5 rfl ?_
    refine zS_get d_Mo_standing_6 f_Mo_103 rfl rfl ?_
    refine zV_icmp_ge d_Mo_standing_9 (by omega) (by omega) (fun c9 => ?_) (fun c9 => ?_)
    · refine zV_iload_n d_Mo_standing_50 rfl ?_
      exact zS_iret d_Mo_standing_51 rfl ⟨Nat.zero_le _, Nat.zero_le _⟩ ⟨by rw [← i1, zsm_e (n := mem 80 2) (by omega), Int.add_zero], rfl⟩
    · refine zV_iload_n d_Mo_standing_12 rfl ?_
      refine zV_aload_n d_Mo_standing_13 rfl ?_
      refine zV_iload_n d_Mo_standing_14 rfl ?_
      refine zS_invvE (mt' := m_Mo_isFlat) (avs := [(0, k)]) (st := [(0, acc)]) d_Mo_standing_15 l_Mo_173 k_Mo_isFlat rfl rfl rfl rfl rfl (s_Mo_isFlat mem k hK (by omega)) ?_
      show zS zT m_Mo_standing (0, 0) 18 [some (2, 80), some (0, p), some (0, acc), some (0, k)] [(0, (zb (mem 82 k = 3))), (0, acc)] mem _
      refine zV_ifb_eq d_Mo_standing_18 (fun c18 => ?_) (fun c18 => ?_)
      · refine zV_iconst d_Mo_standing_41 ?_
        refine zV_iadd d_Mo_standing_42 ?_
        refine zV_istore_n (L' := [some (2, 80), some (0, p), some (0, (acc + 0)), some (0, k)]) d_Mo_standing_43 (by decide) rfl ?_
        refine zV_iinc (L' := [some (2, 80), some (0, p), some (0, (acc + 0)), some (0, (k + 1))]) d_Mo_standing_44 (by decide) rfl rfl ?_
        refine zV_goto d_Mo_standing_47 ?_
        refine ih _ (by omega) (k + 1) _ rfl (by omega) ?_
        rw [← i1, zsm_s (n := mem 80 2) (i := k) (by omega)]
        first | rw [zb_t (show mem 82 k = 3 ∧ cmF (mP mem p) (mem 84 k) 1 = 0 from ⟨by assumption, by assumption⟩)] | rw [zb_f (show ¬ (mem 82 k = 3 ∧ cmF (mP mem p) (mem 84 k) 1 = 0) from fun z => by first | exact absurd z.1 (by assumption) | exact absurd z.2 (by assumption))]
        omega
      · refine zV_aload_n d_Mo_standing_21 rfl ?_
        refine zV_iload_n d_Mo_standing_22 rfl ?_
        refine zV_aload_n d_Mo_standing_23 rfl ?_
        refine zS_getr (r := 84) d_Mo_standing_24 f_Mo_19 rfl rfl rfl ?_
        refine zV_iload_n d_Mo_standing_27 rfl ?_
        refine zS_iald d_Mo_standing_28 rfl rfl ⟨by omega, by omega⟩ ?_
        refine zV_i2l d_Mo_standing_29 (by omega) ?_
        refine zV_lconst1 d_Mo_standing_30 ?_
        refine zS_invvE (mt' := m_Mo_compareTo) (avs := [(0, p), (1, (mem 84 k)), (1, 1)]) (st := [(0, acc)]) d_Mo_standing_31 l_Mo_152 k_Mo_compareTo rfl rfl rfl rfl rfl (s_Mo_compareTo mem p (mem 84 k) 1 hp (cB_ok hQ (by decide) (by omega))) ?_
        show zS zT m_Mo_standing (0, 0) 34 [some (2, 80), some (0, p), some (0, acc), some (0, k)] [(0, (cmF (mP mem p) (mem 84 k) 1)), (0, acc)] mem _
        refine zV_if_ne d_Mo_standing_34 (sg3_i _ _ _) (fun c34 => ?_) (fun c34 => ?_)
        · refine zV_iconst d_Mo_standing_41 ?_
          refine zV_iadd d_Mo_standing_42 ?_
          refine zV_istore_n (L' := [some (2, 80), some (0, p), some (0, (acc + 0)), some (0, k)]) d_Mo_standing_43 (by decide) rfl ?_
          refine zV_iinc (L' := [some (2, 80), some (0, p), some (0, (acc + 0)), some (0, (k + 1))]) d_Mo_standing_44 (by decide) rfl rfl ?_
          refine zV_goto d_Mo_standing_47 ?_
          refine ih _ (by omega) (k + 1) _ rfl (by omega) ?_
          rw [← i1, zsm_s (n := mem 80 2) (i := k) (by omega)]
          first | rw [zb_t (show mem 82 k = 3 ∧ cmF (mP mem p) (mem 84 k) 1 = 0 from ⟨by assumption, by assumption⟩)] | rw [zb_f (show ¬ (mem 82 k = 3 ∧ cmF (mP mem p) (mem 84 k) 1 = 0) from fun z => by first | exact absurd z.1 (by assumption) | exact absurd z.2 (by assumption))]
          omega
        · refine zV_iconst d_Mo_standing_37 ?_
          refine zV_goto d_Mo_standing_38 ?_
          refine zV_iadd d_Mo_standing_42 ?_
          refine zV_istore_n (L' := [some (2, 80), some (0, p), some (0, (acc + 1)), some (0, k)]) d_Mo_standing_43 (by decide) rfl ?_
          refine zV_iinc (L' := [some (2, 80), some (0, p), some (0, (acc + 1)), some (0, (k + 1))]) d_Mo_standing_44 (by decide) rfl rfl ?_
          refine zV_goto d_Mo_standing_47 ?_
          refine ih _ (by omega) (k + 1) _ rfl (by omega) ?_
          rw [← i1, zsm_s (n := mem 80 2) (i := k) (by omega)]
          first | rw [zb_t (show mem 82 k = 3 ∧ cmF (mP mem p) (mem 84 k) 1 = 0 from ⟨by assumption, by assumption⟩)] | rw [zb_f (show ¬ (mem 82 k = 3 ∧ cmF (mP mem p) (mem 84 k) 1 = 0) from fun z => by first | exact absurd z.1 (by assumption) | exact absurd z.2 (by assumption))]
          omega
theorem s_Mo_standing (mem : zMem) (p : Int) (hK : moK mem) (hp : 0 ≤ p ∧ p < 64) (hQ : okQ (mP mem p)) : zF m_Mo_standing [(2, 80), (0, p)] mem (fun r m => r = some (0, stS mem p) ∧ m = mem) := by
  have k1 := hK.1
  refine zF_of (by decide) (Nat.le_of_ble_eq_true rfl) ?_
  show zS zT m_Mo_standing (0, 0) 0 [some (2, 80), some (0, p), none, none] [] mem _
  refine zV_iconst d_Mo_standing_0 ?_
  refine zV_istore_n (L' := [some (2, 80), some (0, p), some (0, 0), none]) d_Mo_standing_1 (by decide) rfl ?_
  refine zV_iconst d_Mo_standing_2 ?_
  refine zV_istore_n (L' := [some (2, 80), some (0, p), some (0, 0), some (0, 0)]) d_Mo_standing_3 (by decide) rfl ?_
  exact s_Mo_standing_4 mem p hK hp hQ _ 0 0 (by omega) (by rw [Int.zero_add]; rfl)
noncomputable def tpM (mem : zMem) (p w : Int) : Int := if w = 0 then 100000 + thP (mP mem p) else if w = 1 then zb ((mP mem p).2.1 = 0) else if w = 2 then meS mem p else if w = 3 then stS mem p else -102
theorem s_Mo_tellPoint (mem : zMem) (p : Int) (hK : moK mem) (hp : 0 ≤ p ∧ p < 64) (hQ : okQ (mP mem p)) (hN : okN (mP mem p)) (w : Int) (hw : I32 w) : zF m_Mo_tellPoint [(2, 80), (0, p), (0, w)] mem (fun r m => r = some (0, tpM mem p w) ∧ m = mem) := by
  have q2 := hQ.1.2.1
  have e2 : (mP mem p).2.1 = mem 87 p := rfl
  refine zF_of (by decide) (Nat.le_of_ble_eq_true rfl) ?_
  show zS zT m_Mo_tellPoint (0, 0) 0 [some (2, 80), some (0, p), some (0, w)] [] mem _
  refine zV_iload_n d_Mo_tellPoint_0 rfl ?_
  by_cases c1_0 : w = 0
  · refine zV_tsIn (off := 31) (tgt := 32) d_Mo_tellPoint_1 (by omega) c1_0 (by decide) ?_
    refine zV_ldcw (a := 100000) d_Mo_tellPoint_32 n_Mo_289 rfl ?_
    refine zV_aload_n d_Mo_tellPoint_35 rfl ?_
    refine zV_iload_n d_Mo_tellPoint_36 rfl ?_
    refine zV_ldc2 (a := 1000) d_Mo_tellPoint_37 n_Mo_290 rfl ?_
    refine zS_invv (mt' := m_Mo_floorOf) (avs := [(0, p), (1, 1000)]) (st := [(0, 100000)]) d_Mo_tellPoint_40 l_Mo_180 k_Mo_floorOf rfl rfl rfl rfl rfl (s_Mo_floorOf mem p 1000 hp (by decide) hQ) (fun r9 m9 hq9 => ?_)
    obtain ⟨v9, rfl, hm9, hv9⟩ := hq9
    rw [hm9]
    have ev := fl_th hQ hN hv9
    show zS zT m_Mo_tellPoint (0, 0) 43 [some (2, 80), some (0, p), some (0, w)] [(1, v9), (0, 100000)] mem _
    refine zV_l2i d_Mo_tellPoint_43 ?_
    refine zV_iadd d_Mo_tellPoint_44 ?_
    exact zS_iret d_Mo_tellPoint_45 rfl ⟨Nat.zero_le _, Nat.zero_le _⟩ (by refine ⟨?_, rfl⟩; unfold tpM; rw [if_pos (show w = 0 by omega)]; rw [ev])
  by_cases c1_1 : w = 1
  · refine zV_tsIn (off := 45) (tgt := 46) d_Mo_tellPoint_1 (by omega) c1_1 (by decide) ?_
    refine zV_aload_n d_Mo_tellPoint_46 rfl ?_
    refine zS_getr (r := 87) d_Mo_tellPoint_47 f_Mo_29 rfl rfl rfl ?_
    refine zV_iload_n d_Mo_tellPoint_50 rfl ?_
    refine zS_lald d_Mo_tellPoint_51 rfl rfl ⟨by omega, by omega⟩ ?_
    refine zV_lconst0 d_Mo_tellPoint_52 ?_
    refine zV_lcmp_ne d_Mo_tellPoint_53 d_Mo_tellPoint_54 (by omega) (by omega) (fun c53 => ?_) (fun c53 => ?_)
    · refine zV_iconst d_Mo_tellPoint_61 ?_
      exact zS_iret d_Mo_tellPoint_62 rfl ⟨Nat.zero_le _, Nat.zero_le _⟩ (by refine ⟨?_, rfl⟩; unfold tpM; rw [if_neg (show ¬ w = 0 by omega), if_pos (show w = 1 by omega)]; first | rw [zb_t (show (mP mem p).2.1 = 0 by omega)] | rw [zb_f (show ¬ (mP mem p).2.1 = 0 by omega)])
    · refine zV_iconst d_Mo_tellPoint_57 ?_
      refine zV_goto d_Mo_tellPoint_58 ?_
      exact zS_iret d_Mo_tellPoint_62 rfl ⟨Nat.zero_le _, Nat.zero_le _⟩ (by refine ⟨?_, rfl⟩; unfold tpM; rw [if_neg (show ¬ w = 0 by omega), if_pos (show w = 1 by omega)]; first | rw [zb_t (show (mP mem p).2.1 = 0 by omega)] | rw [zb_f (show ¬ (mP mem p).2.1 = 0 by omega)])
  by_cases c1_2 : w = 2
  · refine zV_tsIn (off := 62) (tgt := 63) d_Mo_tellPoint_1 (by omega) c1_2 (by decide) ?_
    refine zV_aload_n d_Mo_tellPoint_63 rfl ?_
    refine zV_iload_n d_Mo_tellPoint_64 rfl ?_
    refine zS_invvE (mt' := m_Mo_meeting) (avs := [(0, p)]) (st := []) d_Mo_tellPoint_65 l_Mo_292 k_Mo_meeting rfl rfl rfl rfl rfl (s_Mo_meeting mem p hK hp hQ) ?_
    show zS zT m_Mo_tellPoint (0, 0) 68 [some (2, 80), some (0, p), some (0, w)] [(0, (meS mem p))] mem _
    exact zS_iret d_Mo_tellPoint_68 rfl ⟨Nat.zero_le _, Nat.zero_le _⟩ (by refine ⟨?_, rfl⟩; unfold tpM; rw [if_neg (show ¬ w = 0 by omega), if_neg (show ¬ w = 1 by omega), if_pos (show w = 2 by omega)])
  by_cases c1_3 : w = 3
  · refine zV_tsIn (off := 68) (tgt := 69) d_Mo_tellPoint_1 (by omega) c1_3 (by decide) ?_
    refine zV_aload_n d_Mo_tellPoint_69 rfl ?_
    refine zV_iload_n d_Mo_tellPoint_70 rfl ?_
    refine zS_invvE (mt' := m_Mo_standing) (avs := [(0, p)]) (st := []) d_Mo_tellPoint_71 l_Mo_295 k_Mo_standing rfl rfl rfl rfl rfl (s_Mo_standing mem p hK hp hQ) ?_
    show zS zT m_Mo_tellPoint (0, 0) 74 [some (2, 80), some (0, p), some (0, w)] [(0, (stS mem p))] mem _
    exact zS_iret d_Mo_tellPoint_74 rfl ⟨Nat.zero_le _, Nat.zero_le _⟩ (by refine ⟨?_, rfl⟩; unfold tpM; rw [if_neg (show ¬ w = 0 by omega), if_neg (show ¬ w = 1 by omega), if_neg (show ¬ w = 2 by omega), if_pos (show w = 3 by omega)])
  refine zV_tsOut (tgt := 75) d_Mo_tellPoint_1 (by omega) (by omega) (by decide) ?_
  refine zV_bipush d_Mo_tellPoint_75 ?_
  exact zS_iret d_Mo_tellPoint_77 rfl ⟨Nat.zero_le _, Nat.zero_le _⟩ (by refine ⟨?_, rfl⟩; unfold tpM; rw [if_neg (show ¬ w = 0 by omega), if_neg (show ¬ w = 1 by omega), if_neg (show ¬ w = 2 by omega), if_neg (show ¬ w = 3 by omega)])
noncomputable def npA (mem : zMem) : Int := cif (mem 80 2 = 0) 0 (lpA mem (-1)).1
theorem ML_pt {m : zMem} {out : Int} {s : PtS} (h : ML m out s) : m 80 14 = s.1 ∧ s.1 ≤ 12 ∧ 0 ≤ s.1 ∧ ∀ p, 0 ≤ p → p < s.1 → mP m p = s.2 p ∧ okQ (mP m p) := by
  obtain ⟨hA, hS, hL, hR⟩ := h
  exact ⟨hL.1.1, hL.1.2.1, hA.1, fun p q1 q2 => ⟨hL.1.2.2 p q1 q2, by rw [hL.1.2.2 p q1 q2]; exact hA.2 p q1 q2⟩⟩
theorem s_Mo_point (mem : zMem) (p w : Int) (hp : I32 p) (hw : I32 w) (hK : moK mem) (hO : FRS mem) : zF m_Mo_point [(2, 80), (0, p), (0, w)] mem (fun r m => FZ mem m ∧ r = some (0, if 0 ≤ p ∧ p < npA mem then tpM m p w else -101)) := by
  have k1 := hK.1
  refine zF_of (by decide) (Nat.le_of_ble_eq_true rfl) ?_
  show zS zT m_Mo_point (0, 0) 0 [some (2, 80), some (0, p), some (0, w)] [] mem _
  refine zV_aload_n d_Mo_point_0 rfl ?_
  refine zS_invvE (mt' := m_Mo_lacks) (avs := []) (st := []) d_Mo_point_1 l_Mo_213 k_Mo_lacks rfl rfl rfl rfl rfl (s_Mo_lacks mem (by omega)) ?_
  show zS zT m_Mo_point (0, 0) 4 [some (2, 80), some (0, p), some (0, w)] [(0, (zb (mem 80 2 = 0)))] mem _
  refine zV_ifb_eq d_Mo_point_4 (fun c4 => ?_) (fun c4 => ?_)
  · refine zV_aload_n d_Mo_point_10 rfl ?_
    refine zS_invv (mt' := m_Mo_freshen) (avs := []) (st := []) d_Mo_point_11 l_Mo_217 k_Mo_freshen rfl rfl rfl rfl rfl (s_Mo_freshen mem hK (FRS_T hO (by assumption))) (fun r9 m1 hq9 => ?_)
    obtain ⟨rfl, hR⟩ := hq9
    have hpt := ML_pt hR.1
    have en : npA mem = (lpA mem (-1)).1 := by unfold npA; rw [cif_f (by assumption)]
    show zS zT m_Mo_point (0, 0) 14 [some (2, 80), some (0, p), some (0, w)] [] m1 _
    refine zV_iload_n d_Mo_point_14 rfl ?_
    refine zV_i2l d_Mo_point_15 (by omega) ?_
    refine zV_lconst0 d_Mo_point_16 ?_
    refine zV_aload_n d_Mo_point_17 rfl ?_
    refine zS_get d_Mo_point_18 f_Mo_156 rfl rfl ?_
    refine zV_iconst d_Mo_point_21 ?_
    refine zV_isub d_Mo_point_22 ?_
    refine zV_i2l d_Mo_point_23 (by omega) ?_
    refine zS_invsE (mt' := m_Mo_in) (avs := [(1, p), (1, 0), (1, ((m1 80 14) - 1))]) (st := []) d_Mo_point_24 l_Mo_80 k_Mo_in rfl rfl rfl rfl (s_Mo_in m1 p 0 ((m1 80 14) - 1) (by omega) (by omega) (by omega)) ?_
    show zS zT m_Mo_point (0, 0) 27 [some (2, 80), some (0, p), some (0, w)] [(0, (zb (0 ≤ p ∧ p ≤ ((m1 80 14) - 1))))] m1 _
    refine zV_ifb_eq d_Mo_point_27 (fun c27 => ?_) (fun c27 => ?_)
    · refine zV_bipush d_Mo_point_39 ?_
      exact zS_iret d_Mo_point_41 rfl ⟨Nat.zero_le _, Nat.zero_le _⟩ (by refine ⟨Or.inr ⟨by assumption, hR⟩, ?_⟩; first | rw [if_pos (by omega)] | rw [if_neg (by omega)])
    · refine zV_aload_n d_Mo_point_30 rfl ?_
      refine zV_iload_n d_Mo_point_31 rfl ?_
      refine zV_iload_n d_Mo_point_32 rfl ?_
      refine zS_invvE (mt' := m_Mo_tellPoint) (avs := [(0, p), (0, w)]) (st := []) d_Mo_point_33 l_Mo_298 k_Mo_tellPoint rfl rfl rfl rfl rfl (s_Mo_tellPoint m1 p (FRm_K hR hK) (by omega) (hpt.2.2.2 p (by omega) (by omega)).2 (by rw [(hpt.2.2.2 p (by omega) (by omega)).1]; exact lpA_N mem (-1) p (by omega) (by omega)) w hw) ?_
      show zS zT m_Mo_point (0, 0) 36 [some (2, 80), some (0, p), some (0, w)] [(0, (tpM m1 p w))] m1 _
      refine zV_goto d_Mo_point_36 ?_
      exact zS_iret d_Mo_point_41 rfl ⟨Nat.zero_le _, Nat.zero_le _⟩ (by refine ⟨Or.inr ⟨by assumption, hR⟩, ?_⟩; first | rw [if_pos (by omega)] | rw [if_neg (by omega)])
  · refine zV_bipush d_Mo_point_7 ?_
    exact zS_iret d_Mo_point_9 rfl ⟨Nat.zero_le _, Nat.zero_le _⟩ (by refine ⟨Or.inl ⟨by assumption, rfl⟩, ?_⟩; rw [if_neg (fun z => by unfold npA at z; rw [cif_t (by assumption)] at z; omega)])
