/-! pairs of calls: images, planes -/
section zPK
variable {mem m1 m m' : zMem} {n : Int}
theorem cpS_s {t o j a : Int} (h : ¬ (t + 1 ≤ a ∧ a ≤ t + 4)) : cpS1 m t o j a = m a := by
  unfold cpS1
  rw [zup_a (by omega), zup_a (by omega), zup_a (by omega), zup_a (by omega)]
theorem cpS_v {t o : Int} (hto : o + 4 < t ∨ t + 4 < o) (hn : 0 ≤ mem o 4) : cpS mem t o t 4 = mem o 4 ∧ (∀ a, ¬ (t ≤ a ∧ a ≤ t + 4) → cpS mem t o a = mem a) ∧ ∀ j, 0 ≤ j → j < mem o 4 → ∀ c, 1 ≤ c → c ≤ 4 → cpS mem t o (t + c) j = mem (o + c) j := by
  have hv := zfo_inv (f := fun j m => cpS1 m t o j) (fun j m => (∀ a, ¬ (t + 1 ≤ a ∧ a ≤ t + 4) → m a = mem a) ∧ ∀ l, 0 ≤ l → l < j → ∀ c, 1 ≤ c → c ≤ 4 → m (t + c) l = mem (o + c) l) (mem o 4 - 0).toNat 0 mem ⟨fun _ _ => rfl, fun l q1 q2 => by omega⟩ (fun j m q1 q2 h => by
    obtain ⟨h1, h2⟩ := h
    have ho : ∀ c, 1 ≤ c → c ≤ 4 → m (o + c) = mem (o + c) := fun c y1 y2 => h1 _ (by omega)
    refine ⟨fun a ha => by rw [cpS_s ha]; exact h1 a ha, fun l y1 y2 c y3 y4 => ?_⟩
    have h4 : c = 1 ∨ c = 2 ∨ c = 3 ∨ c = 4 := by omega
    unfold cpS1
    by_cases e : l = j
    · rw [e]
      rcases h4 with rfl | rfl | rfl | rfl
      · rw [zup_c (by omega), zup_c (by omega), zup_c (by omega), zup_s, ho 1 (by decide) (by decide)]
      · rw [zup_c (by omega), zup_c (by omega), zup_s, ho 2 (by decide) (by decide)]
      · rw [zup_c (by omega), zup_s, ho 3 (by decide) (by decide)]
      · rw [zup_s, ho 4 (by decide) (by decide)]
    · rw [zup_k e, zup_k e, zup_k e, zup_k e]
      exact h2 l y1 (by omega) c y3 y4)
  rw [show (0 : Int) + ((mem o 4 - 0).toNat : Int) = mem o 4 by omega] at hv
  obtain ⟨v1, v2⟩ := hv
  unfold cpS
  refine ⟨zup_s, fun a h1 => by rw [zup_a (by omega)]; exact v1 a (by omega), fun j q1 q2 c y1 y2 => ?_⟩
  rw [zup_a (by omega)]
  exact v2 j q1 q2 c y1 y2
theorem IV_k (hA : ∀ a, a ≠ 0 → a ≠ 80 → ¬ (9 ≤ a ∧ a ≤ 14) → ¬ (26 ≤ a ∧ a ≤ 30) → ¬ (95 ≤ a ∧ a ≤ 99) → m' a = m a) (h0 : ∀ k, k ≠ 12 → m' 0 k = m 0 k) (hF : ∀ k, k ≠ 25 → k ≠ 26 → k ≠ 27 → m' 80 k = m 80 k) (hP : IVk m') (h : IV n m) : IV (n + 1) m' := by
  obtain ⟨a, b, c, d, e, f, g, t⟩ := h
  have s1 : ∀ a, a < 80 → a ≠ 0 → ¬ (9 ≤ a ∧ a ≤ 14) → ¬ (26 ≤ a ∧ a ≤ 30) → m' a = m a := fun x q1 q2 q3 q4 => hA x q2 (by omega) q3 q4 (by omega)
  have s2 : ∀ a, 81 ≤ a → a ≤ 94 → m' a = m a := fun x q1 q2 => hA x (by omega) (by omega) (by omega) (by omega) (by omega)
  have z := hF
  exact ⟨IVp_cg (s1 1 (by decide) (by decide) (by decide) (by decide)) (s1 2 (by decide) (by decide) (by decide) (by decide)) (z 1 (by decide) (by decide) (by decide)) (s2 81 (by decide) (by decide)) a, IVr_cg (fun x q1 q2 => s1 x (by omega) (by omega) (by omega) (by omega)) (fun x q1 q2 => s2 x (by omega) (by omega)) (z 2 (by decide) (by decide) (by decide)) b, IVs_cg (fun x q1 q2 => s1 x (by omega) (by omega) (by omega) (by omega)) (s2 94 (by decide) (by decide)) (z 22 (by decide) (by decide) (by decide)) c, hP, IVd_cg (s1 77 (by decide) (by decide) (by decide) (by decide)) (z 24 (by decide) (by decide) (by decide)) e, IVg_cg (s1 78 (by decide) (by decide) (by decide) (by decide)) (s1 79 (by decide) (by decide) (by decide) (by decide)) (z 20 (by decide) (by decide) (by decide)) (s2 92 (by decide) (by decide)) f, IVn_cg (by omega) (h0 13 (by decide)) (h0 14 (by decide)) (h0 15 (by decide)) (z 3 (by decide) (by decide) (by decide)) (z 18 (by decide) (by decide) (by decide)) (z 4 (by decide) (by decide) (by decide)) g, IVt_cg (fun x q1 q2 => s1 x (by omega) (by omega) (by omega) (by omega)) (fun x q1 q2 => s1 x (by omega) (by omega) (by omega) (by omega)) (okI_fr (fun x q1 q2 => s1 x (by omega) (by omega) (by omega) (by omega)) t.2.1) (FRS_cg (fun x q1 q2 => s2 x (by omega) (by omega)) (z 2 (by decide) (by decide) (by decide)) (z 9 (by decide) (by decide) (by decide)) (z 14 (by decide) (by decide) (by decide)) (z 15 (by decide) (by decide) (by decide)) t.2.2.1) t⟩
theorem imC_o {a : Int} (h : ¬ (95 ≤ a ∧ a ≤ 99)) : imC mem a = mem a := by
  unfold imC
  rw [cpA_o (by omega), cpA_o (by omega), cpA_o (by omega), cpA_o (by omega), cpA_o (by omega)]
theorem imC_v {j : Int} (h : 0 ≤ j ∧ j < 4) : imC mem 95 j = mem 82 j ∧ imC mem 96 j = mem 83 j ∧ imC mem 97 j = mem 84 j ∧ imC mem 98 j = mem 85 j := by
  unfold imC
  refine ⟨?_, ?_, ?_, ?_⟩
  · rw [cpA_o (by decide), cpA_o (by decide), cpA_o (by decide), cpA_o (by decide), cpA_v h]
  · rw [cpA_o (by decide), cpA_o (by decide), cpA_o (by decide), cpA_v h, cpA_o (by decide)]
  · rw [cpA_o (by decide), cpA_o (by decide), cpA_v h, cpA_o (by decide), cpA_o (by decide)]
  · rw [cpA_o (by decide), cpA_v h, cpA_o (by decide), cpA_o (by decide), cpA_o (by decide)]
theorem imC_w {j : Int} (h : 0 ≤ j ∧ j < 24) : imC mem 99 j = mem 94 j := by
  unfold imC
  rw [cpA_v h, cpA_o (by decide), cpA_o (by decide), cpA_o (by decide), cpA_o (by decide)]
theorem reC_o {a : Int} (h : ¬ (82 ≤ a ∧ a ≤ 85)) (h2 : a ≠ 94) : reC mem a = mem a := by
  unfold reC
  rw [cpA_o (by omega), cpA_o (by omega), cpA_o (by omega), cpA_o (by omega), cpA_o (by omega)]
theorem reC_v {j : Int} (h : 0 ≤ j ∧ j < 4) : reC mem 82 j = mem 95 j ∧ reC mem 83 j = mem 96 j ∧ reC mem 84 j = mem 97 j ∧ reC mem 85 j = mem 98 j := by
  unfold reC
  refine ⟨?_, ?_, ?_, ?_⟩
  · rw [cpA_o (by decide), cpA_o (by decide), cpA_o (by decide), cpA_o (by decide), cpA_v h]
  · rw [cpA_o (by decide), cpA_o (by decide), cpA_o (by decide), cpA_v h, cpA_o (by decide)]
  · rw [cpA_o (by decide), cpA_o (by decide), cpA_v h, cpA_o (by decide), cpA_o (by decide)]
  · rw [cpA_o (by decide), cpA_v h, cpA_o (by decide), cpA_o (by decide), cpA_o (by decide)]
theorem reC_w {j : Int} (h : 0 ≤ j ∧ j < 24) : reC mem 94 j = mem 99 j := by
  unfold reC
  rw [cpA_v h, cpA_o (by decide), cpA_o (by decide), cpA_o (by decide), cpA_o (by decide)]
theorem pr_image (h : IV n mem) : PR m_Cp_image m_Mo_image [] 0 n mem := by
  have eN : mem 80 2 = mem 3 1 := h.2.1.2.2.1.1
  have hK := h.2.1.2.1
  have n4 := h.2.1.1.1
  have s6 := h.2.2.1.1.1
  refine zF_imp (s_Cp_image mem n4 s6) (fun r m z => ?_)
  rcases z with z | z
  · refine ⟨_, z.2.1, ?_⟩
    rw [z.2.2]
    refine zF_imp (s_Mo_image mem hK) (fun r' m' y => ?_)
    rw [eN] at y
    rcases y with y | y
    · exact ⟨y.2.1, by rw [y.2.2]; exact IV_le (by omega) h⟩
    · exact absurd z.1 y.1
  · obtain ⟨z1, z2, z3⟩ := z
    obtain ⟨c1, c2, c3⟩ := cp_v (mem := mem) (t := 9) (o := 3) (Or.inr (Or.inl rfl)) (Or.inl rfl) (by decide) n4
    have e214 : cpR mem 9 3 21 = mem 21 := c2 21 (by decide) (by omega)
    obtain ⟨d1, d2, d3⟩ := cpS_v (mem := cpR mem 9 3) (t := 26) (o := 21) (by omega) (by rw [e214]; exact s6.1)
    rw [e214] at d1 d3
    have fr : ∀ a, a ≠ 0 → ¬ (9 ≤ a ∧ a ≤ 14) → ¬ (26 ≤ a ∧ a ≤ 30) → m a = mem a := fun a q1 q2 q3 => by rw [z3, zup_a q1, d2 a (by omega), c2 a (by omega) (by omega)]
    have f80 := fr 80 (by decide) (by decide) (by decide)
    have fm : ∀ a, 81 ≤ a → m a = mem a := fun a q => fr a (by omega) (by omega) (by omega)
    have f0 : ∀ j, j ≠ 12 → m 0 j = mem 0 j := fun j q => by rw [z3, zup_k q, d2 0 (by decide), c2 0 (by decide) (by omega)]
    refine ⟨_, z2, zF_imp (s_Mo_image m (moK_cg (by rw [f80]) (fm 82 (by decide)) (fm 83 (by decide)) (fm 84 (by decide)) hK)) (fun r' m' y => ?_)⟩
    rw [f80, eN] at y
    rcases y with y | y
    · exact absurd y.1 z1
    obtain ⟨_, y2, y3⟩ := y
    refine ⟨y2, ?_⟩
    unfold imM at y3
    rw [f80, eN, h.2.2.1.2.1, h.2.2.2.2.2.2.1.1] at y3
    have ao : ∀ a, a ≠ 80 → ¬ (95 ≤ a ∧ a ≤ 99) → m' a = m a := fun a q1 q2 => by rw [y3, zup_a q1, zup_a q1, zup_a q1, imC_o q2]
    have b25 : m' 80 25 = mem 0 13 := by rw [y3, zup_s]
    have b27 : m' 80 27 = mem 21 4 := by rw [y3, zup_k (by decide), zup_s]
    have b26 : m' 80 26 = mem 3 1 := by rw [y3, zup_k (by decide), zup_k (by decide), zup_s]
    have bo : ∀ j, j ≠ 25 → j ≠ 26 → j ≠ 27 → m' 80 j = mem 80 j := fun j q1 q2 q3 => by rw [y3, zup_k q1, zup_k q3, zup_k q2, imC_o (by decide), f80]
    have aw : ∀ j, 0 ≤ j ∧ j < 4 → m' 95 j = mem 82 j ∧ m' 96 j = mem 83 j ∧ m' 97 j = mem 84 j ∧ m' 98 j = mem 85 j := fun j q => by
      obtain ⟨x1, x2, x3, x4⟩ := imC_v (mem := m) q
      refine ⟨?_, ?_, ?_, ?_⟩
      · rw [y3, zup_c (by decide), zup_c (by decide), zup_c (by decide), x1, fm 82 (by decide)]
      · rw [y3, zup_c (by decide), zup_c (by decide), zup_c (by decide), x2, fm 83 (by decide)]
      · rw [y3, zup_c (by decide), zup_c (by decide), zup_c (by decide), x3, fm 84 (by decide)]
      · rw [y3, zup_c (by decide), zup_c (by decide), zup_c (by decide), x4, fm 85 (by decide)]
    have a99 : ∀ j, 0 ≤ j ∧ j < 24 → m' 99 j = mem 94 j := fun j q => by rw [y3, zup_c (by decide), zup_c (by decide), zup_c (by decide), imC_w q, fm 94 (by decide)]
    have v9 : m' 9 1 = mem 3 1 := by rw [ao 9 (by decide) (by decide), z3, zup_c (by decide), d2 9 (by decide)]; exact c1
    have v11 : ∀ l, 0 ≤ l → l < mem 3 1 → ∀ k, 0 ≤ k ∧ k ≤ 3 → m' (9 + 2 + l) k = mem (3 + 2 + l) k := fun l q1 q2 k q3 => by rw [ao (9 + 2 + l) (by omega) (by omega), z3, zup_c (by omega), d2 (9 + 2 + l) (by omega)]; exact c3 l q1 q2 k q3
    have v26 : m' 26 4 = mem 21 4 := by rw [ao 26 (by decide) (by decide), z3, zup_c (by decide)]; exact d1
    have v27 : ∀ j, 0 ≤ j → j < mem 21 4 → ∀ c, 1 ≤ c → c ≤ 4 → m' (26 + c) j = mem (21 + c) j := fun j q1 q2 c q3 q4 => by rw [ao (26 + c) (by omega) (by omega), z3, zup_c (by omega), d3 j q1 q2 c q3 q4, c2 (21 + c) (by omega) (by omega)]
    have v012 : m' 0 12 = 1 := by rw [ao 0 (by decide) (by decide), z3, zup_s]
    have b3 := bo 3 (by decide) (by decide) (by decide)
    have k3 := h.2.2.2.2.2.2.1
    refine IV_k (fun a q1 q2 q3 q4 q5 => (ao a q2 q5).trans (fr a q1 q3 q4)) (fun j q => by rw [ao 0 (by decide) (by decide)]; exact f0 j q) bo ⟨Or.inr v012, ⟨by rw [v9]; exact n4, fun l q1 q2 => ?_⟩, ⟨by rw [v26]; exact s6, fun j q1 q2 => ?_⟩, fun _ => ⟨by rw [v9]; exact z1, ⟨by rw [b26, v9], fun l q1 q2 => ?_⟩, by rw [b27, v26], fun j q1 q2 => ?_⟩, ⟨fun _ => by rw [b25, b3]; exact k3.1.symm, fun _ => v012⟩, ?_, fun j q1 q2 => ?_⟩ h
    · rw [v9] at q2
      rw [v11 l q1 q2 0 (by decide), v11 l q1 q2 1 (by decide), v11 l q1 q2 2 (by decide)]
      exact h.2.1.1.2 l q1 q2
    · rw [v26] at q2
      rw [v27 j q1 q2 1 (by decide) (by decide), v27 j q1 q2 2 (by decide) (by decide), v27 j q1 q2 3 (by decide) (by decide), v27 j q1 q2 4 (by decide) (by decide)]
      exact h.2.2.1.1.2 j q1 q2
    · rw [v9] at q2
      have x := aw l ⟨q1, by omega⟩
      show m' 95 l = _ ∧ m' 96 l = _ ∧ m' 97 l = _ ∧ m' 98 l = _
      rw [x.1, x.2.1, x.2.2.1, x.2.2.2, v11 l q1 q2 0 (by decide), v11 l q1 q2 1 (by decide), v11 l q1 q2 2 (by decide), v11 l q1 q2 3 (by decide)]
      exact h.2.1.2.2.1.2 l q1 q2
    · rw [v26] at q2
      rw [a99 (4 * j) (by omega), a99 (4 * j + 1) (by omega), a99 (4 * j + 2) (by omega), a99 (4 * j + 3) (by omega), v27 j q1 q2 1 (by decide) (by decide), v27 j q1 q2 2 (by decide) (by decide), v27 j q1 q2 3 (by decide) (by decide), v27 j q1 q2 4 (by decide) (by decide)]
      exact h.2.2.1.2.2 j q1 q2
    · rw [b25, b3]
      have := k3.1
      have := k3.2.2.2.1
      omega
    · have x := aw j ⟨q1, q2⟩
      rw [x.1, x.2.1, x.2.2.1, x.2.2.2]
      exact ⟨hK.2 j q1 q2, h.2.1.2.2.2 j q1 q2⟩
theorem pr_restore (hn : n ≤ 429496728) (h : IV n mem) : PR m_Cp_restore m_Mo_restore [] 0 n mem := by
  have hK := h.2.1.2.1
  have n4 := h.2.1.1.1
  obtain ⟨j1, j2, j3, j4, j5, j6, j7⟩ := h.2.2.2.1
  obtain ⟨k1, k2, k3, k4, k5, k6⟩ := h.2.2.2.2.2.2.1
  have s6 := j3.1
  refine zF_imp (s_Cp_restore mem j1 j2 h.2.2.2.2.2.2.2.1 s6) (fun r m z => ?_)
  rcases z with z | z
  · refine ⟨_, z.2.1, ?_⟩
    rw [z.2.2]
    refine zF_imp (s_Mo_restore mem ⟨by omega, by omega⟩ ⟨by omega, by omega⟩) (fun r' m' y => ?_)
    rcases y with y | y
    · exact ⟨y.2.1, by rw [y.2.2]; exact IV_le (by omega) h⟩
    · have := j5.mpr y.1
      omega
  · obtain ⟨z1, z2, z4⟩ := z
    obtain ⟨i1, i2, i3⟩ := j4 z1
    have n9 := j2.1
    obtain ⟨c1, c2, c3⟩ := cp_v (mem := mem) (t := 3) (o := 9) (Or.inl rfl) (Or.inr (Or.inl rfl)) (by decide) n9
    have e264 : cpR mem 3 9 26 = mem 26 := c2 26 (by decide) (by omega)
    obtain ⟨d1, d2, d3⟩ := cpS_v (mem := cpR mem 3 9) (t := 21) (o := 26) (by omega) (by rw [e264]; exact s6.1)
    rw [e264] at d1 d3
    generalize em1 : cpS (cpR mem 3 9) 21 26 = m1 at d1 d2 d3 z4
    have w3 : ∀ a, ¬ (3 ≤ a ∧ a ≤ 8) → ¬ (21 ≤ a ∧ a ≤ 25) → m1 a = mem a := fun a q1 q2 => by rw [d2 a (by omega), c2 a (by omega) (by omega)]
    have v3 : m1 3 1 = mem 9 1 := by rw [d2 3 (by decide)]; exact c1
    have v5 : ∀ l, 0 ≤ l → l < mem 9 1 → ∀ k, 0 ≤ k ∧ k ≤ 3 → m1 (3 + 2 + l) k = mem (9 + 2 + l) k := fun l q1 q2 k q3 => by rw [d2 (3 + 2 + l) (by omega)]; exact c3 l q1 q2 k q3
    have v22 : ∀ j, 0 ≤ j → j < mem 26 4 → ∀ c, 1 ≤ c → c ≤ 4 → m1 (21 + c) j = mem (26 + c) j := fun j q1 q2 c q3 q4 => by rw [d3 j q1 q2 c q3 q4, c2 (26 + c) (by omega) (by omega)]
    have fm : ∀ a, 52 ≤ a → m a = mem a := fun a q => (z4.2 a (by omega)).trans (w3 a (by omega) (by omega))
    have f80 := fm 80 (by decide)
    refine ⟨_, z2, zF_imp (s_Mo_restore m (by rw [f80]; exact ⟨by omega, by omega⟩) (by rw [f80]; exact ⟨by omega, by omega⟩)) (fun r' m' y => ?_)⟩
    rw [f80] at y
    rcases y with y | y
    · exact absurd (j5.mp z1) y.1
    obtain ⟨_, y2, y3⟩ := y
    refine ⟨by rw [y2, i2.1], ?_⟩
    unfold reM at y3
    rw [f80, i2.1, i3.1] at y3
    have ao : ∀ a, a ≠ 80 → ¬ (82 ≤ a ∧ a ≤ 85) → a ≠ 94 → m' a = m a := fun a q1 q2 q3 => by rw [y3, zup_a q1, zup_a q1, zup_a q1, reC_o q2 q3]
    have b2 : m' 80 2 = mem 9 1 := by rw [y3, zup_k (by decide), zup_k (by decide), zup_s]
    have b22 : m' 80 22 = mem 26 4 := by rw [y3, zup_k (by decide), zup_s]
    have bo : ∀ j, j ≠ 2 → j ≠ 22 → j ≠ 9 → m' 80 j = mem 80 j := fun j q1 q2 q3 => by rw [y3, zup_k q3, zup_k q2, zup_k q1, reC_o (by decide) (by decide), f80]
    have aw : ∀ j, 0 ≤ j ∧ j < 4 → m' 82 j = mem 95 j ∧ m' 83 j = mem 96 j ∧ m' 84 j = mem 97 j ∧ m' 85 j = mem 98 j := fun j q => by
      obtain ⟨x1, x2, x3, x4⟩ := reC_v (mem := m) q
      refine ⟨?_, ?_, ?_, ?_⟩
      · rw [y3, zup_c (by decide), zup_c (by decide), zup_c (by decide), x1, fm 95 (by decide)]
      · rw [y3, zup_c (by decide), zup_c (by decide), zup_c (by decide), x2, fm 96 (by decide)]
      · rw [y3, zup_c (by decide), zup_c (by decide), zup_c (by decide), x3, fm 97 (by decide)]
      · rw [y3, zup_c (by decide), zup_c (by decide), zup_c (by decide), x4, fm 98 (by decide)]
    have a94 : ∀ j, 0 ≤ j ∧ j < 24 → m' 94 j = mem 99 j := fun j q => by rw [y3, zup_c (by decide), zup_c (by decide), zup_c (by decide), reC_w q, fm 99 (by decide)]
    generalize e2 : (fun a k => if 21 ≤ a ∧ a ≤ 25 then m1 a k else if a = 94 then m' 94 k else if a = 80 ∧ k = 22 then mem 26 4 else mem a k : zMem) = mem2
    have x21 : ∀ a, 21 ≤ a ∧ a ≤ 25 → mem2 a = m1 a := fun a q => by rw [← e2]; funext k; exact if_pos q
    have x94 : mem2 94 = m' 94 := by rw [← e2]; funext k; show (if (21 : Int) ≤ 94 ∧ (94 : Int) ≤ 25 then _ else _) = _; rw [if_neg (by decide), if_pos rfl]
    have x22 : mem2 80 22 = mem 26 4 := by rw [← e2]; show (if (21 : Int) ≤ 80 ∧ (80 : Int) ≤ 25 then _ else _) = _; rw [if_neg (by decide), if_neg (by decide), if_pos ⟨rfl, rfl⟩]
    have x8 : ∀ k, k ≠ 22 → mem2 80 k = mem 80 k := fun k q => by rw [← e2]; show (if (21 : Int) ≤ 80 ∧ (80 : Int) ≤ 25 then _ else _) = _; rw [if_neg (by decide), if_neg (by decide), if_neg (fun y => q y.2)]
    have xo : ∀ a, a ≠ 80 → ¬ (21 ≤ a ∧ a ≤ 25) → a ≠ 94 → mem2 a = mem a := fun a q1 q2 q3 => by rw [← e2]; funext k; show (if 21 ≤ a ∧ a ≤ 25 then _ else _) = _; rw [if_neg q2, if_neg q3, if_neg (fun y => q1 y.1)]
    have h2 : IV (n + 1) mem2 := by
      refine IV_s xo x8 ⟨⟨?_, fun j q1 q2 => ?_⟩, ?_, fun j q1 q2 => ?_⟩ h
      · rw [x21 21 (by decide), d1]; exact s6
      · rw [x21 21 (by decide), d1] at q2
        rw [x21 (21 + 1) (by decide), x21 (21 + 2) (by decide), x21 (21 + 3) (by decide), x21 (21 + 4) (by decide), v22 j q1 q2 1 (by decide) (by decide), v22 j q1 q2 2 (by decide) (by decide), v22 j q1 q2 3 (by decide) (by decide), v22 j q1 q2 4 (by decide) (by decide)]
        exact j3.2 j q1 q2
      · rw [x22, x21 21 (by decide), d1]
      · rw [x21 21 (by decide), d1] at q2
        rw [x21 (21 + 1) (by decide), x21 (21 + 2) (by decide), x21 (21 + 3) (by decide), x21 (21 + 4) (by decide), v22 j q1 q2 1 (by decide) (by decide), v22 j q1 q2 2 (by decide) (by decide), v22 j q1 q2 3 (by decide) (by decide), v22 j q1 q2 4 (by decide) (by decide), x94, a94 (4 * j) (by omega), a94 (4 * j + 1) (by omega), a94 (4 * j + 2) (by omega), a94 (4 * j + 3) (by omega)]
        exact i3.2 j q1 q2
    have hR : rowE m' 3 82 2 := by
      have e3 : m' 3 1 = mem 9 1 := by rw [ao 3 (by decide) (by decide) (by decide), z4.2 3 (by omega)]; exact v3
      refine ⟨by rw [b2, e3], fun j q1 q2 => ?_⟩
      rw [e3] at q2
      show m' 82 j = _ ∧ m' 83 j = _ ∧ m' 84 j = _ ∧ m' 85 j = _
      have x := aw j ⟨q1, by omega⟩
      rw [x.1, x.2.1, x.2.2.1, x.2.2.2, ao (3 + 2 + j) (by omega) (by omega) (by omega), z4.2 (3 + 2 + j) (by omega), v5 j q1 q2 0 (by decide), v5 j q1 q2 1 (by decide), v5 j q1 q2 2 (by decide), v5 j q1 q2 3 (by decide)]
      exact i2.2 j q1 q2
    have w0 := w3 0 (by decide) (by decide)
    refine IV_bld h2 (by omega) z4 (fun a q => ao a (by omega) (by omega) (by omega)) (fun a q1 q2 q3 => ?_) (fun j q => by rw [w0, xo 0 (by decide) (by decide) (by decide)]) (fun a q1 q2 => ?_) (fun j q1 q2 q3 _ _ => ?_) ⟨by rw [b2]; exact n9, fun j q1 q2 => ?_⟩ hR (fun j q1 q2 => ?_) (by rw [y3]; exact FRT_S old_1) (by rw [v3]; exact i1) ⟨by rw [bo 4 (by decide) (by decide) (by decide), w0]; exact k3, by rw [w0]; omega, by rw [w0]; omega⟩
    · by_cases q : 21 ≤ a ∧ a ≤ 25
      · rw [x21 a q]
      · rw [xo a (by omega) q (by omega), w3 a q2 q]
    · by_cases q : a = 94
      · rw [q, x94]
      · rw [xo a (by omega) (by omega) q, ao a (by omega) (by omega) q, fm a (by omega)]
    · by_cases q : j = 22
      · rw [q, x22, b22]
      · rw [x8 j q, bo j q1 q q3]
    · have x := aw j ⟨q1, q2⟩
      rw [x.1, x.2.1, x.2.2.1]
      exact (j7 j q1 q2).1
    · have x := aw j ⟨q1, q2⟩
      rw [x.2.2.2]
      exact (j7 j q1 q2).2
theorem pr_plane (hn : n ≤ 429496728) (h : IV n mem) : PR m_Cp_plane m_Mo_plane [] 0 n mem := by
  have hp := h.1
  have hp1 := hp.1
  have hK := h.2.1.2.1
  obtain ⟨j1, j2, j3, j4, j5, j6, j7⟩ := h.2.2.2.1
  obtain ⟨k1, k2, k3, k4, k5, k6⟩ := h.2.2.2.2.2.2.1
  have hpl : plM mem ↔ plP mem := by unfold plM plP; rw [ff_eq hp, hp.2.1]
  refine zF_imp (s_Cp_plane mem hp.1 (fun i q1 q2 => (hp.2.2 i q1 q2).1) h.2.2.2.2.2.2.2.1) (fun r m z => ?_)
  rcases z with z | z
  · refine ⟨_, z.2.1, ?_⟩
    rw [z.2.2]
    refine zF_imp (s_Mo_plane mem (by rw [hp.2.1]; exact hp.1) (fun i q1 q2 => by rw [hp.2.1] at q2; rw [(hp.2.2 i q1 q2).2]; exact (hp.2.2 i q1 q2).1)) (fun r' m' y => ?_)
    rcases y with y | y
    · exact ⟨y.2.1, by rw [y.2.2]; exact IV_le (by omega) h⟩
    · exact absurd (hpl.mp y.1) z.1
  · obtain ⟨z1, m1, hW, z3, z4⟩ := z
    have hN : 1 ≤ (mem 1 1 + 1) / 6 ∧ (mem 1 1 + 1) / 6 ≤ 4 ∧ 6 * ((mem 1 1 + 1) / 6) = mem 1 1 + 1 := by
      have := z1.1
      omega
    generalize eN : (mem 1 1 + 1) / 6 = N at hW z3 hN
    have hfit := ffI_all hp1.1 z1.2
    have hrK : rwK m1 3 := paW_K hW ⟨by omega, hN.2.1⟩ hfit (by omega)
    obtain ⟨u1, u2, u3, u4, u5⟩ := hW
    have pE : ∀ a, a ≠ 0 → a ≠ 1 → a ≠ 21 → paE m1 a = m1 a := fun a q1 q2 q3 => by
      unfold paE
      rw [zup_a q1, zup_a q1, zup_a q3, zup_a q2]
    have p0 : ∀ j, j ≠ 12 → j ≠ 13 → paE m1 0 j = m1 0 j := fun j q1 q2 => by
      unfold paE
      rw [zup_k q2, zup_k q1, zup_c (by decide), zup_c (by decide)]
    have p012 : paE m1 0 12 = 0 := by
      unfold paE
      rw [zup_k (by decide), zup_s]
    have p013 : paE m1 0 13 = mem 0 13 + 1 := by
      unfold paE
      rw [zup_s, u4 13 (by decide)]
    have fm : ∀ a, 52 ≤ a → m a = mem a := fun a q => ((z4.2 a (by omega)).trans (pE a (by omega) (by omega) (by omega))).trans (u5 a (by omega))
    have f80 := fm 80 (by decide)
    have f81 := fm 81 (by decide)
    refine ⟨_, z3, zF_imp (s_Mo_plane m (by rw [f80, hp.2.1]; exact hp.1) (fun i q1 q2 => by rw [f80, hp.2.1] at q2; rw [f81, (hp.2.2 i q1 q2).2]; exact (hp.2.2 i q1 q2).1)) (fun r' m' y => ?_)⟩
    have hpl2 : plM m ↔ plM mem := by unfold plM; rw [f80, f81]
    rw [f80, hp.2.1, eN] at y
    rcases y with y | y
    · exact absurd (hpl2.mpr (hpl.mpr z1)) y.1
    obtain ⟨_, y2, m2, ⟨t1, t2, t3, t4, t5⟩, y3, y4⟩ := y
    refine ⟨y2, ?_⟩
    have ao : ∀ a, a ≠ 80 → m' a = m2 a := fun a q1 => by rw [y4, zup_a q1, zup_a q1, zup_a q1, zup_a q1]
    have ao2 : ∀ a, a ≠ 80 → ¬ (82 ≤ a ∧ a ≤ 85) → m' a = m a := fun a q1 q2 => by rw [ao a q1, t5 a (by omega)]
    have bo : ∀ j, j ≠ 9 → j ≠ 1 → j ≠ 3 → j ≠ 22 → m' 80 j = m2 80 j := fun j q1 q2 q3 q4 => by rw [y4, zup_k q1, zup_k q2, zup_k q3, zup_k q4]
    have b1 : m' 80 1 = 0 := by rw [y4, zup_k (by decide), zup_s]
    have b3 : m' 80 3 = mem 80 3 + 1 := by rw [y4, zup_k (by decide), zup_k (by decide), zup_s]
    have b22 : m' 80 22 = 0 := by rw [y4, zup_k (by decide), zup_k (by decide), zup_k (by decide), zup_s]
    have b2 : m' 80 2 = N := by rw [bo 2 (by decide) (by decide) (by decide) (by decide)]; exact y3
    have b4 : m' 80 4 = mem 80 4 + N := by rw [bo 4 (by decide) (by decide) (by decide) (by decide), t1, f80]
    have bo2 : ∀ j, j ≠ 9 → j ≠ 1 → j ≠ 3 → j ≠ 22 → j ≠ 4 → j ≠ 2 → m' 80 j = mem 80 j := fun j q1 q2 q3 q4 q5 q6 => by rw [bo j q1 q2 q3 q4, t4 j q5 q6, f80]
    generalize e2 : zup (zup (zup (zup (zup (zup (zup mem 1 1 0) 21 4 0) 0 12 0) 0 13 (mem 0 13 + 1)) 80 22 0) 80 3 (mem 80 3 + 1)) 80 1 0 = mem2
    have xo : ∀ a, a ≠ 80 → a ≠ 0 → a ≠ 1 → a ≠ 21 → mem2 a = mem a := fun a q1 q2 q3 q4 => by rw [← e2, zup_a q1, zup_a q1, zup_a q1, zup_a q2, zup_a q2, zup_a q4, zup_a q3]
    have x1 : mem2 1 = zup mem 1 1 0 1 := by rw [← e2, zup_a (by decide), zup_a (by decide), zup_a (by decide), zup_a (by decide), zup_a (by decide), zup_a (by decide)]
    have x21 : mem2 21 = zup mem 21 4 0 21 := by
      rw [← e2, zup_a (by decide), zup_a (by decide), zup_a (by decide), zup_a (by decide), zup_a (by decide), zup_f, zup_f, zup_a (by decide)]
    have x8 : ∀ j, j ≠ 1 → j ≠ 3 → j ≠ 22 → mem2 80 j = mem 80 j := fun j q1 q2 q3 => by rw [← e2, zup_k q1, zup_k q2, zup_k q3, zup_c (by decide), zup_c (by decide), zup_c (by decide), zup_c (by decide)]
    have x81 : mem2 80 1 = 0 := by rw [← e2, zup_s]
    have x83 : mem2 80 3 = mem 80 3 + 1 := by rw [← e2, zup_k (by decide), zup_s]
    have x822 : mem2 80 22 = 0 := by rw [← e2, zup_k (by decide), zup_k (by decide), zup_s]
    have x0 : ∀ j, j ≠ 12 → j ≠ 13 → mem2 0 j = mem 0 j := fun j q1 q2 => by rw [← e2, zup_c (by decide), zup_c (by decide), zup_c (by decide), zup_k q2, zup_k q1, zup_c (by decide), zup_c (by decide)]
    have x012 : mem2 0 12 = 0 := by rw [← e2, zup_c (by decide), zup_c (by decide), zup_c (by decide), zup_k (by decide), zup_s]
    have x013 : mem2 0 13 = mem 0 13 + 1 := by rw [← e2, zup_c (by decide), zup_c (by decide), zup_c (by decide), zup_s]
    have h2 : IV (n + 1) mem2 := by
      obtain ⟨a, b, c, d, e, f, g, t⟩ := h
      have z1 : mem2 1 1 = 0 := by rw [x1, zup_s]
      have z21 : mem2 21 4 = 0 := by rw [x21, zup_s]
      have x25 := x8 25 (by decide) (by decide) (by decide)
      refine ⟨⟨by rw [z1]; decide, by rw [z1, x81], fun i q1 q2 => by rw [z1] at q2; omega⟩, IVr_cg (fun x q1 q2 => xo x (by omega) (by omega) (by omega) (by omega)) (fun x q1 q2 => xo x (by omega) (by omega) (by omega) (by omega)) (x8 2 (by decide) (by decide) (by decide)) b, ⟨⟨by rw [z21]; decide, fun i q1 q2 => by rw [z21] at q2; omega⟩, by rw [z21, x822], fun i q1 q2 => by rw [z21] at q2; omega⟩, ⟨Or.inl x012, rwK_cg (fun x q1 q2 => xo x (by omega) (by omega) (by omega) (by omega)) j2, okS_cg (fun x q1 q2 => xo x (by omega) (by omega) (by omega) (by omega)) j3, fun q => by rw [x012] at q; exact absurd q (by decide), ⟨fun q => by rw [x012] at q; exact absurd q (by decide), fun q => by rw [x25, x83] at q; omega⟩, by rw [x25, x83]; omega, by rw [xo 95 (by decide) (by decide) (by decide) (by decide), xo 96 (by decide) (by decide) (by decide) (by decide), xo 97 (by decide) (by decide) (by decide) (by decide), xo 98 (by decide) (by decide) (by decide) (by decide)]; exact j7⟩, IVd_cg (xo 77 (by decide) (by decide) (by decide) (by decide)) (x8 24 (by decide) (by decide) (by decide)) e, IVg_cg (xo 78 (by decide) (by decide) (by decide) (by decide)) (xo 79 (by decide) (by decide) (by decide) (by decide)) (x8 20 (by decide) (by decide) (by decide)) (xo 92 (by decide) (by decide) (by decide) (by decide)) f, ⟨by rw [x83, x013]; omega, by rw [x8 18 (by decide) (by decide) (by decide), x0 14 (by decide) (by decide)]; exact k2, by rw [x8 4 (by decide) (by decide) (by decide), x0 15 (by decide) (by decide)]; exact k3, by rw [x013]; omega, by rw [x0 14 (by decide) (by decide)]; omega, by rw [x0 15 (by decide) (by decide)]; omega, by rw [x0 15 (by decide) (by decide)]; omega⟩, IVt_cg (fun x q1 q2 => xo x (by omega) (by omega) (by omega) (by omega)) (fun x q1 q2 => xo x (by omega) (by omega) (by omega) (by omega)) (okI_fr (fun x q1 q2 => xo x (by omega) (by omega) (by omega) (by omega)) t.2.1) (FRS_cg (fun x q1 q2 => xo x (by omega) (by omega) (by omega) (by omega)) (x8 2 (by decide) (by decide) (by decide)) (x8 9 (by decide) (by decide) (by decide)) (x8 14 (by decide) (by decide) (by decide)) (x8 15 (by decide) (by decide) (by decide)) t.2.2.1) t⟩
    have ep : ∀ l, 0 ≤ l → l < mem 1 1 → m 81 l = mem 2 l := fun l q1 q2 => by rw [f81]; exact (hp.2.2 l q1 q2).2
    have hw : ∀ l, 0 ≤ l → l < N → m' 82 l = m1 (3 + 2 + l) 0 ∧ m' 83 l = m1 (3 + 2 + l) 1 ∧ m' 84 l = m1 (3 + 2 + l) 2 ∧ m' 85 l = m1 (3 + 2 + l) 3 := fun l q1 q2 => by
      obtain ⟨a1, a2, a3, a4⟩ := t2 l q1 q2
      obtain ⟨c1, c2, c3, c4⟩ := u2 l q1 q2
      rw [ao 82 (by decide), ao 83 (by decide), ao 84 (by decide), ao 85 (by decide), a1, a2, a3, a4, c1, c2, c3, c4, ep (6 * l) (by omega) (by omega), f80]
      unfold numAt
      rw [ep (6 * l + 1) (by omega) (by omega), ep (6 * l + 1 + 1) (by omega) (by omega), ep (6 * l + 3) (by omega) (by omega), ep (6 * l + 3 + 1) (by omega) (by omega)]
      exact ⟨rfl, rfl, rfl, by rw [k3]⟩
    have hw2 : ∀ l, N ≤ l → m' 82 l = mem 82 l ∧ m' 83 l = mem 83 l ∧ m' 84 l = mem 84 l ∧ m' 85 l = mem 85 l := fun l q => by
      obtain ⟨a1, a2, a3, a4⟩ := t3 l q
      rw [ao 82 (by decide), ao 83 (by decide), ao 84 (by decide), ao 85 (by decide), a1, a2, a3, a4, fm 82 (by decide), fm 83 (by decide), fm 84 (by decide), fm 85 (by decide)]
      exact ⟨rfl, rfl, rfl, rfl⟩
    have e31 : paE m1 3 1 = N := by rw [pE 3 (by decide) (by decide) (by decide)]; exact u1
    have hR : rowE m' 3 82 2 := by
      have e3 : m' 3 1 = N := by rw [ao2 3 (by decide) (by decide), z4.2 3 (by omega)]; exact e31
      refine ⟨by rw [b2, e3], fun j q1 q2 => ?_⟩
      rw [e3] at q2
      rw [ao2 (3 + 2 + j) (by omega) (by omega), z4.2 (3 + 2 + j) (by omega), pE (3 + 2 + j) (by omega) (by omega) (by omega)]
      exact hw j q1 q2
    refine IV_bld h2 (by omega) z4 (fun a q => ao2 a (by omega) (by omega)) (fun a q1 q2 q3 => ?_) (fun j q => ?_) (fun a q1 q2 => ?_) (fun j q1 q2 q3 _ _ => ?_) ⟨by rw [b2]; omega, fun j q1 q2 => ?_⟩ hR (fun j q1 q2 => ?_) (by rw [y4]; exact FRT_S old_1) (by rw [e31]; omega) ⟨by rw [b4, p0 15 (by decide) (by decide), u3, k3], by rw [p0 15 (by decide) (by decide), u3]; omega, by rw [p0 15 (by decide) (by decide), u3]; omega⟩
    · by_cases e1 : a = 1
      · rw [e1, x1]
        unfold paE
        rw [zup_a (by decide), zup_a (by decide), zup_a (by decide), zup_f, zup_f, u5 1 (by decide)]
      by_cases e21 : a = 21
      · rw [e21, x21]
        unfold paE
        rw [zup_a (by decide), zup_a (by decide), zup_f, zup_f, zup_a (by decide), u5 21 (by decide)]
      rw [xo a (by omega) q1 e1 e21, pE a q1 e1 e21, u5 a (by omega)]
    · by_cases e12 : j = 12
      · rw [e12, x012, p012]
      by_cases e13 : j = 13
      · rw [e13, x013, p013]
      rw [x0 j e12 e13, p0 j e12 e13, u4 j q]
    · rw [xo a (by omega) (by omega) (by omega) (by omega), ao2 a (by omega) (by omega), fm a (by omega)]
    · by_cases e1 : j = 1
      · rw [e1, x81, b1]
      by_cases e3 : j = 3
      · rw [e3, x83, b3]
      by_cases e22 : j = 22
      · rw [e22, x822, b22]
      rw [x8 j e1 e3 e22, bo2 j q3 e1 e3 e22 q2 q1]
    · by_cases q : j < N
      · have x := hw j q1 q
        rw [x.1, x.2.1, x.2.2.1]
        exact hrK.2 j q1 (by rw [u1]; exact q)
      · have x := hw2 j (by omega)
        rw [x.1, x.2.1, x.2.2.1]
        exact hK.2 j q1 q2
    · by_cases q : j < N
      · have x := hw j q1 q
        rw [x.2.2.2, (u2 j q1 q).2.2.2]
        exact ⟨by omega, by omega⟩
      · have x := hw2 j (by omega)
        rw [x.2.2.2]
        exact h.2.1.2.2.2 j q1 q2
end zPK
