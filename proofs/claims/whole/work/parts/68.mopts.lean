/-! the reference: all points -/
theorem rtD_0 : rtD 0 = 0 := rtD_u (by decide) (by decide) (by decide)
theorem nrm_0 (p q : Int) : nrm p 0 0 q = (tn q * p, 0, 0, tn q * q) := by
  unfold nrm
  rw [rtD_0, if_pos (by decide), Int.mul_zero, Int.add_zero]
theorem zz5 : (0 : Int) ≤ 0 ∧ (0 : Int) ≤ 500 := by decide
theorem tn_c (q : Int) : tn q = 1 ∨ tn q = -1 := by unfold tn; split <;> omega
theorem tn_q {q : Int} (h : q ≠ 0) : 0 < tn q * q ∧ (tn q * q = q ∨ tn q * q = -q) := by unfold tn; split <;> omega
theorem okQ_f {p q : Int} (hp : -40 ≤ p ∧ p ≤ 40) (h0 : q ≠ 0) (hq : -18 ≤ q ∧ q ≤ 18) : okQ (nrm p 0 0 q) := by
  rw [nrm_0]
  have t := tn_q h0
  have a : -40 ≤ tn q * p ∧ tn q * p ≤ 40 := by rcases tn_c q with e | e <;> rw [e] <;> omega
  refine ⟨⟨a, Or.inr (Or.inl rfl), zz5, ?_⟩, Or.inl ⟨rfl, rfl⟩⟩
  show 1 ≤ tn q * q ∧ tn q * q ≤ 18
  omega
theorem okQ_q {a b d y : Int} (ha : a ≠ 0) (ha2 : -2 ≤ a ∧ a ≤ 2) (hb : -18 ≤ b ∧ b ≤ 18) (hd : 0 ≤ d ∧ d ≤ 484) (hd1 : (a = 1 ∨ a = -1) → d ≤ 400) (hy : y = 1 ∨ y = -1) : okQ (nrm (0 - b) y d (2 * a)) := by
  have t := tn_q (q := 2 * a) (by omega)
  have s1 : -18 ≤ tn (2 * a) * (0 - b) ∧ tn (2 * a) * (0 - b) ≤ 18 := by rcases tn_c (2 * a) with e | e <;> rw [e] <;> omega
  have s2 : tn (2 * a) * y = 1 ∨ tn (2 * a) * y = -1 := by rcases tn_c (2 * a) with e | e <;> rcases hy with f | f <;> rw [e, f] <;> decide
  obtain ⟨r1, r2⟩ := rtD_sp hd.1 (by omega)
  have r0 := (rtD_r d).1
  unfold nrm
  by_cases h : rtD d * rtD d = d
  · rw [if_pos h]
    have r3 := sq_le (a := rtD d) (b := 22) (by decide) (by omega)
    have s3 : -22 ≤ tn (2 * a) * y * rtD d ∧ tn (2 * a) * y * rtD d ≤ 22 := by rcases s2 with e | e <;> rw [e] <;> omega
    refine ⟨⟨?_, Or.inr (Or.inl rfl), zz5, ?_⟩, Or.inl ⟨rfl, rfl⟩⟩
    · show -40 ≤ tn (2 * a) * (0 - b) + tn (2 * a) * y * rtD d ∧ tn (2 * a) * (0 - b) + tn (2 * a) * y * rtD d ≤ 40
      omega
    · show 1 ≤ tn (2 * a) * (2 * a) ∧ tn (2 * a) * (2 * a) ≤ 18
      omega
  · rw [if_neg h]
    have d1 : 1 ≤ d := by
      apply Int.not_lt.mp
      intro z
      have z2 : d = 0 := by omega
      rw [z2, rtD_0] at h
      exact h (by decide)
    refine ⟨⟨?_, ?_, ⟨hd.1, ?_⟩, ?_⟩, Or.inr ⟨s2, s1, d1, ?_⟩⟩
    · show -40 ≤ tn (2 * a) * (0 - b) ∧ tn (2 * a) * (0 - b) ≤ 40
      omega
    · show tn (2 * a) * y = -1 ∨ tn (2 * a) * y = 0 ∨ tn (2 * a) * y = 1
      omega
    · show d ≤ 500
      omega
    · show 1 ≤ tn (2 * a) * (2 * a) ∧ tn (2 * a) * (2 * a) ≤ 18
      omega
    · show (tn (2 * a) * (2 * a) = 2 ∧ d ≤ 400) ∨ (tn (2 * a) * (2 * a) = 4 ∧ d ≤ 484)
      by_cases e : a = 1 ∨ a = -1
      · have := hd1 e
        omega
      · omega
noncomputable def meM (s : PtS) (a b c : Int) : PtS := if a = 0 then (if b = 0 then s else entP s (nrm (0 - c) 0 0 b)) else if b * b - 4 * a * c < 0 then s else entP (entP s (nrm (0 - b) 1 (b * b - 4 * a * c) (2 * a))) (nrm (0 - b) (-1) (b * b - 4 * a * c) (2 * a))
theorem dsc {a b c : Int} (ha : -2 ≤ a ∧ a ≤ 2) (hb : -18 ≤ b ∧ b ≤ 18) (hc : -18 ≤ c ∧ c ≤ 18) : (-468 ≤ b * b - 4 * a * c ∧ b * b - 4 * a * c ≤ 468) ∧ ((a = 1 ∨ a = -1) → b * b - 4 * a * c ≤ 396) := by
  have q1 := mb hb hb
  have q2 := sqn b
  have q3 := mb ha hc
  have e : 4 * a * c = 4 * (a * c) := by grind
  refine ⟨by omega, fun h => ?_⟩
  have q4 := mb (⟨by omega, by omega⟩ : -1 ≤ a ∧ a ≤ 1) hc
  omega
theorem meM_ok {s : PtS} {a b c : Int} (hA : okA s) (hS : Srt s) (ha : -2 ≤ a ∧ a ≤ 2) (hb : -18 ≤ b ∧ b ≤ 18) (hc : -18 ≤ c ∧ c ≤ 18) : okA (meM s a b c) ∧ Srt (meM s a b c) ∧ s.1 ≤ (meM s a b c).1 ∧ (meM s a b c).1 ≤ s.1 + 2 := by
  obtain ⟨d1, d2⟩ := dsc ha hb hc
  unfold meM
  by_cases h1 : a = 0
  · rw [if_pos h1]
    by_cases h2 : b = 0
    · rw [if_pos h2]
      exact ⟨hA, hS, by omega, by omega⟩
    · rw [if_neg h2]
      have o := ent_ok hA hS (okQ_f (p := 0 - c) (q := b) (by omega) h2 hb)
      have n := ent_n s (nrm (0 - c) 0 0 b)
      exact ⟨o.1, o.2, by omega, by omega⟩
  · rw [if_neg h1]
    by_cases h2 : b * b - 4 * a * c < 0
    · rw [if_pos h2]
      exact ⟨hA, hS, by omega, by omega⟩
    · rw [if_neg h2]
      have x1 := okQ_q (y := 1) h1 ha hb (d := b * b - 4 * a * c) (by omega) (fun h => by have := d2 h; omega) (Or.inl rfl)
      have x2 := okQ_q (y := -1) h1 ha hb (d := b * b - 4 * a * c) (by omega) (fun h => by have := d2 h; omega) (Or.inr rfl)
      have o := ent_ok hA hS x1
      have o2 := ent_ok o.1 o.2 x2
      have n := ent_n s (nrm (0 - b) 1 (b * b - 4 * a * c) (2 * a))
      have n2 := ent_n (entP s (nrm (0 - b) 1 (b * b - 4 * a * c) (2 * a))) (nrm (0 - b) (-1) (b * b - 4 * a * c) (2 * a))
      exact ⟨o2.1, o2.2, by omega, by omega⟩
theorem moK_fr {mem m : zMem} (h : frP mem m) (hK : moK mem) : moK m := by
  unfold moK
  rw [h.1 82 (by decide) (by omega), h.1 83 (by decide) (by omega), h.1 84 (by decide) (by omega), h.2 2 (by decide)]
  exact hK
theorem s_Mo_addRoots_77z (mem : zMem) (i k a b c d : Int) (h : a = 0) (Q9 : zQ2) (hq : Q9 none mem) : zS zT m_Mo_addRoots (0, 0) 77 [some (2, 80), some (0, i), some (0, k), some (0, a), some (0, b), some (0, c), some (0, d)] [] mem (zQs Q9) := by
  refine zV_iload_n d_Mo_addRoots_77 rfl ?_
  refine zV_if_eq d_Mo_addRoots_78 (by omega) (fun c78 => ?_) (fun c78 => absurd c78 (by omega))
  exact zS_vret d_Mo_addRoots_122 rfl ⟨Nat.zero_le _, Nat.zero_le _⟩ hq
theorem s_Mo_addRoots_77n (mem : zMem) (s : PtS) (hA : okA s) (hS : Srt s) (h10 : s.1 ≤ 10) (hM : MS mem s) (i k : Int) (a b c : Int) (ha : -2 ≤ a ∧ a ≤ 2) (hb : -18 ≤ b ∧ b ≤ 18) (hc : -18 ≤ c ∧ c ≤ 18) (h1 : a ≠ 0) : zS zT m_Mo_addRoots (0, 0) 77 [some (2, 80), some (0, i), some (0, k), some (0, a), some (0, b), some (0, c), some (0, ((b * b) - ((4 * a) * c)))] [] mem (zQs (fun r m => r = none ∧ MS m (meM s a b c) ∧ frP mem m)) := by
  obtain ⟨d1, d2⟩ := dsc ha hb hc
  refine zV_iload_n d_Mo_addRoots_77 rfl ?_
  refine zV_if_eq d_Mo_addRoots_78 (by omega) (fun c78 => absurd c78 (by omega)) (fun c78 => ?_)
  refine zV_iload d_Mo_addRoots_81 rfl ?_
  refine zV_if_lt d_Mo_addRoots_83 (by omega) (fun c83 => ?_) (fun c83 => ?_)
  · exact zS_vret d_Mo_addRoots_122 rfl ⟨Nat.zero_le _, Nat.zero_le _⟩ (by refine ⟨rfl, ?_, frP_r _⟩; unfold meM; rw [if_neg h1, if_pos (by omega)]; exact hM)
  · refine zV_aload_n d_Mo_addRoots_86 rfl ?_
    refine zV_iconst d_Mo_addRoots_87 ?_
    refine zV_iload d_Mo_addRoots_88 rfl ?_
    refine zV_isub d_Mo_addRoots_90 ?_
    refine zV_i2l d_Mo_addRoots_91 (by omega) ?_
    refine zV_lconst1 d_Mo_addRoots_92 ?_
    refine zV_iload d_Mo_addRoots_93 rfl ?_
    refine zV_i2l d_Mo_addRoots_95 (by omega) ?_
    refine zV_iconst d_Mo_addRoots_96 ?_
    refine zV_iload_n d_Mo_addRoots_97 rfl ?_
    refine zV_imul d_Mo_addRoots_98 ?_
    refine zV_i2l d_Mo_addRoots_99 (by omega) ?_
    refine zS_invv (mt' := m_Mo_addPoint) (avs := [(1, (0 - b)), (1, 1), (1, ((b * b) - ((4 * a) * c))), (1, (2 * a))]) (st := []) d_Mo_addRoots_100 l_Mo_167 k_Mo_addPoint rfl rfl rfl rfl rfl (s_Mo_addPoint mem s hA hS (by omega) hM (0 - b) 1 ((b * b) - ((4 * a) * c)) (2 * a) (by omega) (by omega) (okQ_q h1 ha hb (by omega) (fun h => by have := d2 h; omega) (Or.inl rfl))) (fun r9 m5 hq9 => ?_)
    obtain ⟨rfl, hM5, hf5⟩ := hq9
    have o5 := ent_ok hA hS (okQ_q (d := ((b * b) - ((4 * a) * c))) (y := 1) h1 ha hb (by omega) (fun h => by have := d2 h; omega) (Or.inl rfl))
    have n5 := ent_n s (nrm (0 - b) 1 ((b * b) - ((4 * a) * c)) (2 * a))
    show zS zT m_Mo_addRoots (0, 0) 103 [some (2, 80), some (0, i), some (0, k), some (0, a), some (0, b), some (0, c), some (0, ((b * b) - ((4 * a) * c)))] [] m5 _
    refine zV_aload_n d_Mo_addRoots_103 rfl ?_
    refine zV_iconst d_Mo_addRoots_104 ?_
    refine zV_iload d_Mo_addRoots_105 rfl ?_
    refine zV_isub d_Mo_addRoots_107 ?_
    refine zV_i2l d_Mo_addRoots_108 (by omega) ?_
    refine zV_ldc2 (a := (-1)) d_Mo_addRoots_109 n_Mo_171 rfl ?_
    refine zV_iload d_Mo_addRoots_112 rfl ?_
    refine zV_i2l d_Mo_addRoots_114 (by omega) ?_
    refine zV_iconst d_Mo_addRoots_115 ?_
    refine zV_iload_n d_Mo_addRoots_116 rfl ?_
    refine zV_imul d_Mo_addRoots_117 ?_
    refine zV_i2l d_Mo_addRoots_118 (by omega) ?_
    refine zS_invv (mt' := m_Mo_addPoint) (avs := [(1, (0 - b)), (1, (-1)), (1, ((b * b) - ((4 * a) * c))), (1, (2 * a))]) (st := []) d_Mo_addRoots_119 l_Mo_167 k_Mo_addPoint rfl rfl rfl rfl rfl (s_Mo_addPoint m5 _ o5.1 o5.2 (by omega) hM5 (0 - b) (-1) ((b * b) - ((4 * a) * c)) (2 * a) (by omega) (by omega) (okQ_q h1 ha hb (by omega) (fun h => by have := d2 h; omega) (Or.inr rfl))) (fun r9 m6 hq9 => ?_)
    obtain ⟨rfl, hM6, hf6⟩ := hq9
    show zS zT m_Mo_addRoots (0, 0) 122 [some (2, 80), some (0, i), some (0, k), some (0, a), some (0, b), some (0, c), some (0, ((b * b) - ((4 * a) * c)))] [] m6 _
    exact zS_vret d_Mo_addRoots_122 rfl ⟨Nat.zero_le _, Nat.zero_le _⟩ (by refine ⟨rfl, ?_, frP_t hf5 hf6⟩; unfold meM; rw [if_neg h1, if_neg (by omega)]; exact hM6)
theorem s_Mo_addRoots (mem : zMem) (s : PtS) (hA : okA s) (hS : Srt s) (h10 : s.1 ≤ 10) (hM : MS mem s) (i k : Int) (hK : moK mem) (hi : 0 ≤ i ∧ i < 4) (hk : 0 ≤ k ∧ k < 4) : zF m_Mo_addRoots [(2, 80), (0, i), (0, k)] mem (fun r m => r = none ∧ MS m (meM s (sqK (mem 82 i) - sqK (mem 82 k)) (slK (mem 82 i) (mem 83 i) - slK (mem 82 k) (mem 83 k)) (mem 84 i - mem 84 k)) ∧ frP mem m) := by
  have ka := hK.2 i hi.1 hi.2
  have kb := hK.2 k hk.1 hk.2
  have qa := sqK_r (mem 82 i)
  have qb := sqK_r (mem 82 k)
  have la := slK_r (k := mem 82 i) ka.2.1
  have lb := slK_r (k := mem 82 k) kb.2.1
  have ha : -2 ≤ (sqK (mem 82 i) - sqK (mem 82 k)) ∧ (sqK (mem 82 i) - sqK (mem 82 k)) ≤ 2 := by omega
  have hb : -18 ≤ (slK (mem 82 i) (mem 83 i) - slK (mem 82 k) (mem 83 k)) ∧ (slK (mem 82 i) (mem 83 i) - slK (mem 82 k) (mem 83 k)) ≤ 18 := by omega
  have hc : -18 ≤ (mem 84 i - mem 84 k) ∧ (mem 84 i - mem 84 k) ≤ 18 := by omega
  refine zF_of (by decide) (Nat.le_of_ble_eq_true rfl) ?_
  show zS zT m_Mo_addRoots (0, 0) 0 [some (2, 80), some (0, i), some (0, k), none, none, none, none] [] mem _
  refine zV_aload_n d_Mo_addRoots_0 rfl ?_
  refine zV_iload_n d_Mo_addRoots_1 rfl ?_
  refine zS_invvE (mt' := m_Mo_square) (avs := [(0, i)]) (st := []) d_Mo_addRoots_2 l_Mo_126 k_Mo_square rfl rfl rfl rfl rfl (s_Mo_square mem i hK (by omega)) ?_
  show zS zT m_Mo_addRoots (0, 0) 5 [some (2, 80), some (0, i), some (0, k), none, none, none, none] [(0, (sqK (mem 82 i)))] mem _
  refine zV_aload_n d_Mo_addRoots_5 rfl ?_
  refine zV_iload_n d_Mo_addRoots_6 rfl ?_
  refine zS_invvE (mt' := m_Mo_square) (avs := [(0, k)]) (st := [(0, (sqK (mem 82 i)))]) d_Mo_addRoots_7 l_Mo_126 k_Mo_square rfl rfl rfl rfl rfl (s_Mo_square mem k hK (by omega)) ?_
  show zS zT m_Mo_addRoots (0, 0) 10 [some (2, 80), some (0, i), some (0, k), none, none, none, none] [(0, (sqK (mem 82 k))), (0, (sqK (mem 82 i)))] mem _
  refine zV_isub d_Mo_addRoots_10 ?_
  refine zV_istore_n (L' := [some (2, 80), some (0, i), some (0, k), some (0, ((sqK (mem 82 i)) - (sqK (mem 82 k)))), none, none, none]) d_Mo_addRoots_11 (by decide) rfl ?_
  refine zV_aload_n d_Mo_addRoots_12 rfl ?_
  refine zV_iload_n d_Mo_addRoots_13 rfl ?_
  refine zS_invvE (mt' := m_Mo_slope) (avs := [(0, i)]) (st := []) d_Mo_addRoots_14 l_Mo_129 k_Mo_slope rfl rfl rfl rfl rfl (s_Mo_slope mem i hK (by omega)) ?_
  show zS zT m_Mo_addRoots (0, 0) 17 [some (2, 80), some (0, i), some (0, k), some (0, ((sqK (mem 82 i)) - (sqK (mem 82 k)))), none, none, none] [(0, (slK (mem 82 i) (mem 83 i)))] mem _
  refine zV_aload_n d_Mo_addRoots_17 rfl ?_
  refine zV_iload_n d_Mo_addRoots_18 rfl ?_
  refine zS_invvE (mt' := m_Mo_slope) (avs := [(0, k)]) (st := [(0, (slK (mem 82 i) (mem 83 i)))]) d_Mo_addRoots_19 l_Mo_129 k_Mo_slope rfl rfl rfl rfl rfl (s_Mo_slope mem k hK (by omega)) ?_
  show zS zT m_Mo_addRoots (0, 0) 22 [some (2, 80), some (0, i), some (0, k), some (0, ((sqK (mem 82 i)) - (sqK (mem 82 k)))), none, none, none] [(0, (slK (mem 82 k) (mem 83 k))), (0, (slK (mem 82 i) (mem 83 i)))] mem _
  refine zV_isub d_Mo_addRoots_22 ?_
  refine zV_istore (L' := [some (2, 80), some (0, i), some (0, k), some (0, ((sqK (mem 82 i)) - (sqK (mem 82 k)))), some (0, ((slK (mem 82 i) (mem 83 i)) - (slK (mem 82 k) (mem 83 k)))), none, none]) d_Mo_addRoots_23 (by decide) rfl ?_
  refine zV_aload_n d_Mo_addRoots_25 rfl ?_
  refine zS_getr (r := 84) d_Mo_addRoots_26 f_Mo_19 rfl rfl rfl ?_
  refine zV_iload_n d_Mo_addRoots_29 rfl ?_
  refine zS_iald d_Mo_addRoots_30 rfl rfl ⟨by omega, by omega⟩ ?_
  refine zV_aload_n d_Mo_addRoots_31 rfl ?_
  refine zS_getr (r := 84) d_Mo_addRoots_32 f_Mo_19 rfl rfl rfl ?_
  refine zV_iload_n d_Mo_addRoots_35 rfl ?_
  refine zS_iald d_Mo_addRoots_36 rfl rfl ⟨by omega, by omega⟩ ?_
  refine zV_isub d_Mo_addRoots_37 ?_
  refine zV_istore (L' := [some (2, 80), some (0, i), some (0, k), some (0, ((sqK (mem 82 i)) - (sqK (mem 82 k)))), some (0, ((slK (mem 82 i) (mem 83 i)) - (slK (mem 82 k) (mem 83 k)))), some (0, ((mem 84 i) - (mem 84 k))), none]) d_Mo_addRoots_38 (by decide) rfl ?_
  refine zV_iload d_Mo_addRoots_40 rfl ?_
  refine zV_iload d_Mo_addRoots_42 rfl ?_
  refine zV_imul d_Mo_addRoots_44 ?_
  refine zV_iconst d_Mo_addRoots_45 ?_
  refine zV_iload_n d_Mo_addRoots_46 rfl ?_
  refine zV_imul d_Mo_addRoots_47 ?_
  refine zV_iload d_Mo_addRoots_48 rfl ?_
  refine zV_imul d_Mo_addRoots_50 ?_
  refine zV_isub d_Mo_addRoots_51 ?_
  refine zV_istore (L' := [some (2, 80), some (0, i), some (0, k), some (0, ((sqK (mem 82 i)) - (sqK (mem 82 k)))), some (0, ((slK (mem 82 i) (mem 83 i)) - (slK (mem 82 k) (mem 83 k)))), some (0, ((mem 84 i) - (mem 84 k))), some (0, ((((slK (mem 82 i) (mem 83 i)) - (slK (mem 82 k) (mem 83 k))) * ((slK (mem 82 i) (mem 83 i)) - (slK (mem 82 k) (mem 83 k)))) - ((4 * ((sqK (mem 82 i)) - (sqK (mem 82 k)))) * ((mem 84 i) - (mem 84 k)))))]) d_Mo_addRoots_52 (by decide) rfl ?_
  refine zV_iload_n d_Mo_addRoots_54 rfl ?_
  refine zV_if_ne d_Mo_addRoots_55 (by omega) (fun c55 => ?_) (fun c55 => ?_)
  · first | exact s_Mo_addRoots_77n mem s hA hS h10 hM i k _ _ _ ha hb hc (by omega) | exact s_Mo_addRoots_77z mem i k _ _ _ _ (by omega) _ (by refine ⟨rfl, ?_, frP_r _⟩; unfold meM; rw [if_pos (by omega), if_pos (by omega)]; exact hM)
  · refine zV_iload d_Mo_addRoots_58 rfl ?_
    refine zV_if_eq d_Mo_addRoots_60 (by omega) (fun c60 => ?_) (fun c60 => ?_)
    · first | exact s_Mo_addRoots_77n mem s hA hS h10 hM i k _ _ _ ha hb hc (by omega) | exact s_Mo_addRoots_77z mem i k _ _ _ _ (by omega) _ (by refine ⟨rfl, ?_, frP_r _⟩; unfold meM; rw [if_pos (by omega), if_pos (by omega)]; exact hM)
    · refine zV_aload_n d_Mo_addRoots_63 rfl ?_
      refine zV_iconst d_Mo_addRoots_64 ?_
      refine zV_iload d_Mo_addRoots_65 rfl ?_
      refine zV_isub d_Mo_addRoots_67 ?_
      refine zV_i2l d_Mo_addRoots_68 (by omega) ?_
      refine zV_lconst0 d_Mo_addRoots_69 ?_
      refine zV_lconst0 d_Mo_addRoots_70 ?_
      refine zV_iload d_Mo_addRoots_71 rfl ?_
      refine zV_i2l d_Mo_addRoots_73 (by omega) ?_
      refine zS_invv (mt' := m_Mo_addPoint) (avs := [(1, (0 - ((mem 84 i) - (mem 84 k)))), (1, 0), (1, 0), (1, ((slK (mem 82 i) (mem 83 i)) - (slK (mem 82 k) (mem 83 k))))]) (st := []) d_Mo_addRoots_74 l_Mo_167 k_Mo_addPoint rfl rfl rfl rfl rfl (s_Mo_addPoint mem s hA hS (by omega) hM (0 - ((mem 84 i) - (mem 84 k))) 0 0 ((slK (mem 82 i) (mem 83 i)) - (slK (mem 82 k) (mem 83 k))) (by omega) (by omega) (okQ_f (by omega) (by omega) hb)) (fun r9 m5 hq9 => ?_)
      obtain ⟨rfl, hM5, hf5⟩ := hq9
      show zS zT m_Mo_addRoots (0, 0) 77 [some (2, 80), some (0, i), some (0, k), some (0, ((sqK (mem 82 i)) - (sqK (mem 82 k)))), some (0, ((slK (mem 82 i) (mem 83 i)) - (slK (mem 82 k) (mem 83 k)))), some (0, ((mem 84 i) - (mem 84 k))), some (0, ((((slK (mem 82 i) (mem 83 i)) - (slK (mem 82 k) (mem 83 k))) * ((slK (mem 82 i) (mem 83 i)) - (slK (mem 82 k) (mem 83 k)))) - ((4 * ((sqK (mem 82 i)) - (sqK (mem 82 k)))) * ((mem 84 i) - (mem 84 k)))))] [] m5 _
      exact s_Mo_addRoots_77z m5 i k _ _ _ _ (by omega) _ (by refine ⟨rfl, ?_, hf5⟩; unfold meM; rw [if_pos (by omega), if_neg (by omega)]; exact hM5)
noncomputable def lpI (mem : zMem) (out k n : Int) (s : PtS) : PtS := cif (k ≠ out ∧ n ≠ out ∧ mem 82 k ≠ 3 ∧ mem 82 n ≠ 3) (meM s (sqK (mem 82 n) - sqK (mem 82 k)) (slK (mem 82 n) (mem 83 n) - slK (mem 82 k) (mem 83 k)) (mem 84 n - mem 84 k)) s
noncomputable def lpO (mem : zMem) (out k : Int) (s : PtS) : PtS := zfo (lpI mem out k) (k - 0).toNat 0 (cif (k ≠ out ∧ mem 82 k = 3) (entP s (nrm (mem 84 k) 0 0 1)) s)
noncomputable def lpA (mem : zMem) (out : Int) : PtS := zfo (lpO mem out) (mem 80 2 - 0).toNat 0 (0, fun _ => (0, 0, 0, 1))
def lpB (mem : zMem) (k : Int) (s : PtS) : Prop := (k = 0 ∧ s.1 ≤ 0) ∨ (k = 1 ∧ s.1 ≤ 1 ∧ (s.1 = 1 → mem 82 0 = 3)) ∨ (k = 2 ∧ s.1 ≤ 2) ∨ (k = 3 ∧ s.1 ≤ 6) ∨ (4 ≤ k ∧ s.1 ≤ 12)
def lpC (mem : zMem) (k n : Int) (s : PtS) : Prop := (mem 82 k = 3 ∧ ((k = 0 ∧ s.1 ≤ 1) ∨ (k = 1 ∧ s.1 ≤ 2) ∨ (k = 2 ∧ s.1 ≤ 6) ∨ (k = 3 ∧ s.1 ≤ 12))) ∨ (mem 82 k ≠ 3 ∧ ((k = 0 ∧ s.1 ≤ 0) ∨ (k = 1 ∧ n = 0 ∧ s.1 ≤ 1 ∧ (s.1 = 1 → mem 82 0 = 3)) ∨ (k = 1 ∧ n = 1 ∧ s.1 ≤ 2) ∨ (k = 2 ∧ s.1 ≤ 2 + 2 * n) ∨ (k = 3 ∧ s.1 ≤ 6 + 2 * n)))
def PI (mem m : zMem) (s : PtS) : Prop := MS m s ∧ okA s ∧ Srt s ∧ frP mem m
theorem lpC_a {mem : zMem} {k : Int} {s : PtS} (h : lpB mem k s) (hk : 0 ≤ k ∧ k < 4) : lpC mem k 0 s := by unfold lpB at h; unfold lpC; omega
theorem lpC_e {mem : zMem} {k : Int} {s t : PtS} (h : lpB mem k s) (hk : 0 ≤ k ∧ k < 4) (hf : mem 82 k = 3) (ht : t.1 = s.1 ∨ t.1 = s.1 + 1) : lpC mem k 0 t := by unfold lpB at h; unfold lpC; omega
theorem lpC_b {mem : zMem} {k : Int} {s : PtS} (h : lpC mem k k s) (hk : 0 ≤ k ∧ k < 4) : lpB mem (k + 1) s := by
  unfold lpC at h
  unfold lpB
  by_cases e : k = 0
  · subst e
    omega
  · omega
theorem lpC_s {mem : zMem} {k n : Int} {s : PtS} (h : lpC mem k n s) (hk : k < 4) (hn : 0 ≤ n ∧ n < k) : lpC mem k (n + 1) s := by
  unfold lpC at *
  omega
theorem lpC_m {mem : zMem} {k n : Int} {s t : PtS} (h : lpC mem k n s) (hk : k < 4) (hn : 0 ≤ n ∧ n < k) (f1 : mem 82 k ≠ 3) (f2 : mem 82 n ≠ 3) (ht : t.1 ≤ s.1 + 2) : s.1 ≤ 10 ∧ lpC mem k (n + 1) t := by
  unfold lpC at *
  by_cases e : n = 0
  · subst e
    omega
  · omega
theorem s_Mo_layPoints_44 (mem : zMem) (out : Int) (ho : I32 out) (hK : moK mem) (k : Int) (hk : 0 ≤ k ∧ k < mem 80 2) (q : PtS) (Q9 : zQ2) (kk : ∀ m, PI mem m q → lpC mem k k q → zS zT m_Mo_layPoints (0, 0) 87 [some (2, 80), some (0, out), some (0, k), none] [] m (zQs Q9)) : ∀ (n : Int) (m : zMem) (s : PtS), (0 ≤ n ∧ n ≤ k) → (PI mem m s) → (lpC mem k n s) → (zfo (lpI mem out k) (k - n).toNat n s = q) → zS zT m_Mo_layPoints (0, 0) 44 [some (2, 80), some (0, out), some (0, k), some (0, n)] [] m (zQs (Q9)) := by
  intro n m s
  obtain ⟨k9, hk9⟩ : ∃ kq : Nat, (k - n).toNat = kq := ⟨_, rfl⟩
  induction k9 using Nat.strongRecOn generalizing n m s with
  | _ k9 ih =>
    intro i0 i1 i2 i3
    have e82 : m 82 = mem 82 := i1.2.2.2.1 82 (by decide) (by omega)
    have e83 : m 83 = mem 83 := i1.2.2.2.1 83 (by decide) (by omega)
    have e84 : m 84 = mem 84 := i1.2.2.2.1 84 (by decide) (by omega)
    have hKm := moK_fr i1.2.2.2 hK
    have k1 := hK.1
    have e2 : m 80 2 = mem 80 2 := i1.2.2.2.2 2 (by decide)
    refine zV_iload_n d_Mo_layPoints_44 rfl ?_
    refine zV_iload_n d_Mo_layPoints_45 rfl ?_
    refine zV_icmp_ge d_Mo_layPoints_46 (by omega) (by omega) (fun c46 => ?_) (fun c46 => ?_)
    · refine zV_forget (L' := [some (2, 80), some (0, out), some (0, k), none]) (by simp [zle]) ?_
      have en : n = k := by omega
      rw [zfo_e (n := k) (by omega)] at i3
      rw [en] at i2
      rw [i3] at i1 i2
      exact kk m i1 i2
    · refine zV_iload_n d_Mo_layPoints_49 rfl ?_
      refine zV_iload_n d_Mo_layPoints_50 rfl ?_
      refine zV_icmp_eq d_Mo_layPoints_51 (by omega) (by omega) (fun c51 => ?_) (fun c51 => ?_)
      · refine zV_iinc (L' := [some (2, 80), some (0, out), some (0, k), some (0, (n + 1))]) d_Mo_layPoints_81 (by decide) rfl rfl ?_
        refine zV_goto d_Mo_layPoints_84 ?_
        refine ih _ (by omega) (n + 1) m s rfl (by omega) i1 (lpC_s i2 (by omega) (by omega)) ?_
        rw [← i3, zfo_s (n := k) (i := n) (by omega)]
        have hcf : ¬ (k ≠ out ∧ n ≠ out ∧ mem 82 k ≠ 3 ∧ mem 82 n ≠ 3) := by rw [← e82]; omega
        have el : lpI mem out k n s = s := by unfold lpI; rw [cif_f hcf]
        rw [el]
      · refine zV_iload_n d_Mo_layPoints_54 rfl ?_
        refine zV_iload_n d_Mo_layPoints_55 rfl ?_
        refine zV_icmp_eq d_Mo_layPoints_56 (by omega) (by omega) (fun c56 => ?_) (fun c56 => ?_)
        · refine zV_iinc (L' := [some (2, 80), some (0, out), some (0, k), some (0, (n + 1))]) d_Mo_layPoints_81 (by decide) rfl rfl ?_
          refine zV_goto d_Mo_layPoints_84 ?_
          refine ih _ (by omega) (n + 1) m s rfl (by omega) i1 (lpC_s i2 (by omega) (by omega)) ?_
          rw [← i3, zfo_s (n := k) (i := n) (by omega)]
          have hcf : ¬ (k ≠ out ∧ n ≠ out ∧ mem 82 k ≠ 3 ∧ mem 82 n ≠ 3) := by rw [← e82]; omega
          have el : lpI mem out k n s = s := by unfold lpI; rw [cif_f hcf]
          rw [el]
        · refine zV_aload_n d_Mo_layPoints_59 rfl ?_
          refine zV_iload_n d_Mo_layPoints_60 rfl ?_
          refine zS_invvE (mt' := m_Mo_isFlat) (avs := [(0, k)]) (st := []) d_Mo_layPoints_61 l_Mo_173 k_Mo_isFlat rfl rfl rfl rfl rfl (s_Mo_isFlat m k hKm (by omega)) ?_
          show zS zT m_Mo_layPoints (0, 0) 64 [some (2, 80), some (0, out), some (0, k), some (0, n)] [(0, (zb (m 82 k = 3)))] m _
          refine zV_ifb_ne d_Mo_layPoints_64 (fun c64 => ?_) (fun c64 => ?_)
          · refine zV_iinc (L' := [some (2, 80), some (0, out), some (0, k), some (0, (n + 1))]) d_Mo_layPoints_81 (by decide) rfl rfl ?_
            refine zV_goto d_Mo_layPoints_84 ?_
            refine ih _ (by omega) (n + 1) m s rfl (by omega) i1 (lpC_s i2 (by omega) (by omega)) ?_
            rw [← i3, zfo_s (n := k) (i := n) (by omega)]
            have hcf : ¬ (k ≠ out ∧ n ≠ out ∧ mem 82 k ≠ 3 ∧ mem 82 n ≠ 3) := by rw [← e82]; omega
            have el : lpI mem out k n s = s := by unfold lpI; rw [cif_f hcf]
            rw [el]
          · refine zV_aload_n d_Mo_layPoints_67 rfl ?_
            refine zV_iload_n d_Mo_layPoints_68 rfl ?_
            refine zS_invvE (mt' := m_Mo_isFlat) (avs := [(0, n)]) (st := []) d_Mo_layPoints_69 l_Mo_173 k_Mo_isFlat rfl rfl rfl rfl rfl (s_Mo_isFlat m n hKm (by omega)) ?_
            show zS zT m_Mo_layPoints (0, 0) 72 [some (2, 80), some (0, out), some (0, k), some (0, n)] [(0, (zb (m 82 n = 3)))] m _
            refine zV_ifb_ne d_Mo_layPoints_72 (fun c72 => ?_) (fun c72 => ?_)
            · refine zV_iinc (L' := [some (2, 80), some (0, out), some (0, k), some (0, (n + 1))]) d_Mo_layPoints_81 (by decide) rfl rfl ?_
              refine zV_goto d_Mo_layPoints_84 ?_
              refine ih _ (by omega) (n + 1) m s rfl (by omega) i1 (lpC_s i2 (by omega) (by omega)) ?_
              rw [← i3, zfo_s (n := k) (i := n) (by omega)]
              have hcf : ¬ (k ≠ out ∧ n ≠ out ∧ mem 82 k ≠ 3 ∧ mem 82 n ≠ 3) := by rw [← e82]; omega
              have el : lpI mem out k n s = s := by unfold lpI; rw [cif_f hcf]
              rw [el]
            · refine zV_aload_n d_Mo_layPoints_75 rfl ?_
              refine zV_iload_n d_Mo_layPoints_76 rfl ?_
              refine zV_iload_n d_Mo_layPoints_77 rfl ?_
              have f1 : mem 82 k ≠ 3 := by rw [← e82]; assumption
              have f2 : mem 82 n ≠ 3 := by rw [← e82]; assumption
              have ka := hK.2 n (by omega) (by omega)
              have kb := hK.2 k (by omega) (by omega)
              have qa := sqK_r (mem 82 n)
              have qb := sqK_r (mem 82 k)
              have la := slK_r (k := mem 82 n) ka.2.1
              have lb := slK_r (k := mem 82 k) kb.2.1
              have hmo := meM_ok (s := s) (a := sqK (mem 82 n) - sqK (mem 82 k)) (b := slK (mem 82 n) (mem 83 n) - slK (mem 82 k) (mem 83 k)) (c := mem 84 n - mem 84 k) i1.2.1 i1.2.2.1 (by omega) (by omega) (by omega)
              have hcc := lpC_m i2 (by omega) (by omega) f1 f2 hmo.2.2.2
              refine zS_invv (mt' := m_Mo_addRoots) (avs := [(0, n), (0, k)]) (st := []) d_Mo_layPoints_78 l_Mo_176 k_Mo_addRoots rfl rfl rfl rfl rfl (s_Mo_addRoots m s i1.2.1 i1.2.2.1 hcc.1 i1.1 n k hKm (by omega) (by omega)) (fun r9 m5 hq9 => ?_)
              obtain ⟨rfl, hM5, hf5⟩ := hq9
              rw [e82, e83, e84] at hM5
              show zS zT m_Mo_layPoints (0, 0) 81 [some (2, 80), some (0, out), some (0, k), some (0, n)] [] m5 _
              refine zV_iinc (L' := [some (2, 80), some (0, out), some (0, k), some (0, (n + 1))]) d_Mo_layPoints_81 (by decide) rfl rfl ?_
              refine zV_goto d_Mo_layPoints_84 ?_
              refine ih _ (by omega) (n + 1) m5 (meM s (sqK (mem 82 n) - sqK (mem 82 k)) (slK (mem 82 n) (mem 83 n) - slK (mem 82 k) (mem 83 k)) (mem 84 n - mem 84 k)) rfl (by omega) ⟨hM5, hmo.1, hmo.2.1, frP_t i1.2.2.2 hf5⟩ hcc.2 ?_
              rw [← i3, zfo_s (n := k) (i := n) (by omega)]
              have el : lpI mem out k n s = (meM s (sqK (mem 82 n) - sqK (mem 82 k)) (slK (mem 82 n) (mem 83 n) - slK (mem 82 k) (mem 83 k)) (mem 84 n - mem 84 k)) := by unfold lpI; rw [cif_t (show k ≠ out ∧ n ≠ out ∧ mem 82 k ≠ 3 ∧ mem 82 n ≠ 3 by rw [← e82]; omega)]
              rw [el]
theorem s_Mo_layPoints_87 (mem : zMem) (out k : Int) (hk : 0 ≤ k ∧ k < 4) (Q9 : zQ2) (kk : zS zT m_Mo_layPoints (0, 0) 7 [some (2, 80), some (0, out), some (0, (k + 1)), none] [] mem (zQs Q9)) : zS zT m_Mo_layPoints (0, 0) 87 [some (2, 80), some (0, out), some (0, k), none] [] mem (zQs Q9) := by
  refine zV_iinc (L' := [some (2, 80), some (0, out), some (0, (k + 1)), none]) d_Mo_layPoints_87 (by decide) rfl rfl ?_
  refine zV_goto d_Mo_layPoints_90 ?_
  exact kk
theorem s_Mo_layPoints_7 (mem : zMem) (out : Int) (ho : I32 out) (hK : moK mem) (q : PtS) : ∀ (k : Int) (m : zMem) (s : PtS), (0 ≤ k ∧ k ≤ mem 80 2) → (PI mem m s) → (lpB mem k s) → (zfo (lpO mem out) (mem 80 2 - k).toNat k s = q) → zS zT m_Mo_layPoints (0, 0) 7 [some (2, 80), some (0, out), some (0, k), none] [] m (zQs (fun r m => r = none ∧ PI mem m q)) := by
  intro k m s
  obtain ⟨k9, hk9⟩ : ∃ kq : Nat, (mem 80 2 - k).toNat = kq := ⟨_, rfl⟩
  induction k9 using Nat.strongRecOn generalizing k m s with
  | _ k9 ih =>
    intro i0 i1 i2 i3
    have e82 : m 82 = mem 82 := i1.2.2.2.1 82 (by decide) (by omega)
    have e83 : m 83 = mem 83 := i1.2.2.2.1 83 (by decide) (by omega)
    have e84 : m 84 = mem 84 := i1.2.2.2.1 84 (by decide) (by omega)
    have hKm := moK_fr i1.2.2.2 hK
    have k1 := hK.1
    have e2 : m 80 2 = mem 80 2 := i1.2.2.2.2 2 (by decide)
    have kb := hK.2 k i0.1
    have kb4 : k < 4 → -9 ≤ m 84 k ∧ m 84 k ≤ 9 := fun z => by rw [e84]; exact (kb z).2.2
    have kb5 : k < 4 → -9 ≤ mem 84 k ∧ mem 84 k ≤ 9 := fun z => (kb z).2.2
    refine zV_iload_n d_Mo_layPoints_7 rfl ?_
    refine zV_aload_n d_Mo_layPoints_8 rfl ?_
    refine zS_get d_Mo_layPoints_9 f_Mo_103 rfl rfl ?_
    refine zV_icmp_ge d_Mo_layPoints_12 (by omega) (by omega) (fun c12 => ?_) (fun c12 => ?_)
    · exact zS_vret d_Mo_layPoints_93 rfl ⟨Nat.zero_le _, Nat.zero_le _⟩ ⟨rfl, by rw [zfo_e (n := mem 80 2) (by omega)] at i3; rw [← i3]; exact i1⟩
    · refine zV_iload_n d_Mo_layPoints_15 rfl ?_
      refine zV_iload_n d_Mo_layPoints_16 rfl ?_
      refine zV_icmp_eq d_Mo_layPoints_17 (by omega) (by omega) (fun c17 => ?_) (fun c17 => ?_)
      · refine zV_iconst d_Mo_layPoints_42 ?_
        refine zV_istore_n (L' := [some (2, 80), some (0, out), some (0, k), some (0, 0)]) d_Mo_layPoints_43 (by decide) rfl ?_
        have hcf : ¬ (k ≠ out ∧ mem 82 k = 3) := by rw [← e82]; omega
        have el : lpO mem out k s = zfo (lpI mem out k) (k - 0).toNat 0 s := by unfold lpO; rw [cif_f hcf]
        refine s_Mo_layPoints_44 mem out ho hK k (by omega) (lpO mem out k s) _ (fun m7 hI7 hC7 => ?_) 0 m s (by omega) i1 (lpC_a i2 (by omega)) el.symm
        refine s_Mo_layPoints_87 m7 out k (by omega) _ (ih _ (by omega) (k + 1) m7 _ rfl (by omega) hI7 (lpC_b hC7 (by omega)) ?_)
        rw [← i3, zfo_s (n := mem 80 2) (i := k) (by omega)]
      · refine zV_aload_n d_Mo_layPoints_20 rfl ?_
        refine zV_iload_n d_Mo_layPoints_21 rfl ?_
        refine zS_invvE (mt' := m_Mo_isFlat) (avs := [(0, k)]) (st := []) d_Mo_layPoints_22 l_Mo_173 k_Mo_isFlat rfl rfl rfl rfl rfl (s_Mo_isFlat m k hKm (by omega)) ?_
        show zS zT m_Mo_layPoints (0, 0) 25 [some (2, 80), some (0, out), some (0, k), none] [(0, (zb (m 82 k = 3)))] m _
        refine zV_ifb_eq d_Mo_layPoints_25 (fun c25 => ?_) (fun c25 => ?_)
        · refine zV_iconst d_Mo_layPoints_42 ?_
          refine zV_istore_n (L' := [some (2, 80), some (0, out), some (0, k), some (0, 0)]) d_Mo_layPoints_43 (by decide) rfl ?_
          have hcf : ¬ (k ≠ out ∧ mem 82 k = 3) := by rw [← e82]; omega
          have el : lpO mem out k s = zfo (lpI mem out k) (k - 0).toNat 0 s := by unfold lpO; rw [cif_f hcf]
          refine s_Mo_layPoints_44 mem out ho hK k (by omega) (lpO mem out k s) _ (fun m7 hI7 hC7 => ?_) 0 m s (by omega) i1 (lpC_a i2 (by omega)) el.symm
          refine s_Mo_layPoints_87 m7 out k (by omega) _ (ih _ (by omega) (k + 1) m7 _ rfl (by omega) hI7 (lpC_b hC7 (by omega)) ?_)
          rw [← i3, zfo_s (n := mem 80 2) (i := k) (by omega)]
        · refine zV_aload_n d_Mo_layPoints_28 rfl ?_
          refine zV_aload_n d_Mo_layPoints_29 rfl ?_
          refine zS_getr (r := 84) d_Mo_layPoints_30 f_Mo_19 rfl rfl rfl ?_
          refine zV_iload_n d_Mo_layPoints_33 rfl ?_
          refine zS_iald d_Mo_layPoints_34 rfl rfl ⟨by omega, by omega⟩ ?_
          refine zV_i2l d_Mo_layPoints_35 (by omega) ?_
          refine zV_lconst0 d_Mo_layPoints_36 ?_
          refine zV_lconst0 d_Mo_layPoints_37 ?_
          refine zV_lconst1 d_Mo_layPoints_38 ?_
          refine zS_invv (mt' := m_Mo_addPoint) (avs := [(1, (m 84 k)), (1, 0), (1, 0), (1, 1)]) (st := []) d_Mo_layPoints_39 l_Mo_167 k_Mo_addPoint rfl rfl rfl rfl rfl (s_Mo_addPoint m s i1.2.1 i1.2.2.1 (by unfold lpB at i2; omega) i1.1 (m 84 k) 0 0 1 ⟨by decide, by decide⟩ ⟨by decide, by decide⟩ (okQ_f (by omega) (by decide) ⟨by decide, by decide⟩)) (fun r9 m5 hq9 => ?_)
          obtain ⟨rfl, hM5, hf5⟩ := hq9
          rw [e84] at hM5
          show zS zT m_Mo_layPoints (0, 0) 42 [some (2, 80), some (0, out), some (0, k), none] [] m5 _
          refine zV_iconst d_Mo_layPoints_42 ?_
          refine zV_istore_n (L' := [some (2, 80), some (0, out), some (0, k), some (0, 0)]) d_Mo_layPoints_43 (by decide) rfl ?_
          have f1 : mem 82 k = 3 := by rw [← e82]; assumption
          have el : lpO mem out k s = zfo (lpI mem out k) (k - 0).toNat 0 (entP s (nrm (mem 84 k) 0 0 1)) := by unfold lpO; rw [cif_t ⟨by omega, f1⟩]
          have o5 := ent_ok i1.2.1 i1.2.2.1 (okQ_f (p := mem 84 k) (q := 1) (by omega) (by decide) ⟨by decide, by decide⟩)
          refine s_Mo_layPoints_44 mem out ho hK k (by omega) (lpO mem out k s) _ (fun m7 hI7 hC7 => ?_) 0 m5 _ (by omega) ⟨hM5, o5.1, o5.2, frP_t i1.2.2.2 hf5⟩ (lpC_e i2 (by omega) f1 (ent_n _ _)) el.symm
          refine s_Mo_layPoints_87 m7 out k (by omega) _ (ih _ (by omega) (k + 1) m7 _ rfl (by omega) hI7 (lpC_b hC7 (by omega)) ?_)
          rw [← i3, zfo_s (n := mem 80 2) (i := k) (by omega)]
theorem s_Mo_layPoints (mem : zMem) (out : Int) (ho : I32 out) (hK : moK mem) : zF m_Mo_layPoints [(2, 80), (0, out)] mem (fun r m => r = none ∧ PI mem m (lpA mem out)) := by
  have k1 := hK.1
  refine zF_of (by decide) (Nat.le_of_ble_eq_true rfl) ?_
  show zS zT m_Mo_layPoints (0, 0) 0 [some (2, 80), some (0, out), none, none] [] mem _
  refine zV_aload_n d_Mo_layPoints_0 rfl ?_
  refine zV_iconst d_Mo_layPoints_1 ?_
  refine zS_puti d_Mo_layPoints_2 f_Mo_156 rfl ⟨rfl, rfl⟩ rfl ?_
  refine zV_iconst d_Mo_layPoints_5 ?_
  refine zV_istore_n (L' := [some (2, 80), some (0, out), some (0, 0), none]) d_Mo_layPoints_6 (by decide) rfl ?_
  exact s_Mo_layPoints_7 mem out ho hK _ 0 _ (0, fun _ => (0, 0, 0, 1)) (by omega) ⟨⟨zup_s, by decide, fun k q1 q2 => by have q3 : k < 0 := q2; omega⟩, ⟨by decide, fun k q1 q2 => by have q3 : k < 0 := q2; omega⟩, fun i j q1 q2 q3 => by have q4 : j < 0 := q3; omega, ⟨fun a q1 _ => zup_a q1, fun k q => zup_k q⟩⟩ (Or.inl ⟨rfl, by decide⟩) rfl
