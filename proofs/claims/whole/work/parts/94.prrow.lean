/-! pairs of calls: what changes the row -/
section zPR
variable {mem m1 m m' : zMem} {n : Int}
theorem FRT_S (h : FRT m) : FRS m := ⟨h.1, fun q _ => h.2 q⟩
theorem StD_row {t : Int} (hr : RwE m' 3 mem 3) (hD : StD mem 3 m t) : StD m' 3 m t := by
  obtain ⟨d1, d2, d3, d4, d5, d6⟩ := hD
  have n1 : m' 3 1 = mem 3 1 := hr.1
  refine ⟨d1, by rw [RwE_pt hr]; exact d2, by rw [RwE_pt hr]; exact d3, by rw [n1]; exact d4, fun c q1 q2 => ?_, fun s q1 q2 => ?_⟩
  · rw [hr.2 c 0 q1 q2 (by decide) (by decide)]
    exact d5 c q1 (by rw [← n1]; exact q2)
  · rw [RwE_pt hr] at q2
    obtain ⟨z1, z2⟩ := d6 s q1 q2
    refine ⟨by rw [RwE_tp hr]; exact z1, fun c y1 y2 => ?_⟩
    rw [RwE_pl hr ⟨y1, y2⟩]
    exact z2 c y1 (by rw [← n1]; exact y2)
theorem IV_bld {k : Int} (h : IV n mem) (hk : n ≤ k) (hB : BLT m1 m) (hc : ∀ a, a < 80 → m' a = m a) (f1 : ∀ a, a ≠ 0 → ¬ (3 ≤ a ∧ a ≤ 8) → a < 80 → m1 a = mem a) (f0 : ∀ j, j ≠ 15 → m1 0 j = mem 0 j) (f2 : ∀ a, 81 ≤ a → ¬ (82 ≤ a ∧ a ≤ 91) → m' a = mem a) (f3 : ∀ j, j ≠ 2 → j ≠ 4 → j ≠ 9 → j ≠ 14 → j ≠ 15 → m' 80 j = mem 80 j) (hM : moK m') (hR : rowE m' 3 82 2) (hNm : ∀ j, 0 ≤ j → j < 4 → I32 (m' 85 j)) (hO : FRS m') (hne : m1 3 1 ≠ 0) (h15 : m' 80 4 = m1 0 15 ∧ 0 ≤ m1 0 15 ∧ m1 0 15 ≤ 4 * k + 8) : IV k m' := by
  have hS := hB.2
  have s1 : ∀ a, a < 80 → ¬ (31 ≤ a ∧ a ≤ 51) → m' a = m1 a := fun a q1 q2 => (hc a q1).trans (hS a (by omega))
  have s2 : ∀ a, a < 80 → a ≠ 0 → ¬ (3 ≤ a ∧ a ≤ 8) → ¬ (31 ≤ a ∧ a ≤ 51) → m' a = mem a := fun a q1 q2 q3 q4 => (s1 a q1 q4).trans (f1 a q2 q3 q1)
  have s0 : ∀ j, m' 0 j = m1 0 j := fun j => by rw [s1 0 (by decide) (by decide)]
  have s00 : ∀ j, j ≠ 15 → m' 0 j = mem 0 j := fun j q => (s0 j).trans (f0 j q)
  have z : ∀ j, j ≠ 2 → j ≠ 4 → j ≠ 9 → j ≠ 14 → j ≠ 15 → m' 80 j = mem 80 j := f3
  obtain ⟨a, b, c, d, e, f, g, t⟩ := h
  have n3 : m' 3 1 = m1 3 1 := by rw [s1 3 (by decide) (by decide)]
  have hr3 : rwK m' 3 := by
    obtain ⟨r1, r2⟩ := hR
    refine ⟨by rw [← r1]; exact hM.1, fun j q1 q2 => ?_⟩
    obtain ⟨x0, x1, x2, _⟩ := r2 j q1 q2
    have y := hM.2 j q1 (by have := hM.1; omega)
    rw [← x0, ← x1, ← x2]
    exact y
  have hst : StD m' 3 m' 31 := by
    have w1 : StD m1 3 m 31 := hB.1
    have w2 : StD m 3 m 31 := by
      refine StD_row ⟨by rw [hS 3 (by omega)], fun l k q1 q2 _ _ => ?_⟩ w1
      rw [hS 3 (by omega), ← n3] at q2
      have := hr3.1
      rw [hS (3 + 2 + l) (by omega)]
    exact StD_fr (fun x q1 q2 => hc x (by omega)) (fun x q1 q2 => hc x (by omega)) w2
  refine ⟨IVp_cg (s2 1 (by decide) (by decide) (by decide) (by decide)) (s2 2 (by decide) (by decide) (by decide) (by decide)) (z 1 (by decide) (by decide) (by decide) (by decide) (by decide)) (f2 81 (by decide) (by decide)) a, ⟨hr3, hM, hR, hNm⟩, IVs_cg (fun x q1 q2 => s2 x (by omega) (by omega) (by omega) (by omega)) (f2 94 (by decide) (by decide)) (z 22 (by decide) (by decide) (by decide) (by decide) (by decide)) c, IVk_cg (s00 12 (by decide)) (fun x q1 q2 => s2 x (by omega) (by omega) (by omega) (by omega)) (fun x q1 q2 => s2 x (by omega) (by omega) (by omega) (by omega)) (fun x q1 q2 => f2 x (by omega) (by omega)) (z 3 (by decide) (by decide) (by decide) (by decide) (by decide)) (z 25 (by decide) (by decide) (by decide) (by decide) (by decide)) (z 26 (by decide) (by decide) (by decide) (by decide) (by decide)) (z 27 (by decide) (by decide) (by decide) (by decide) (by decide)) d, IVd_cg (s2 77 (by decide) (by decide) (by decide) (by decide)) (z 24 (by decide) (by decide) (by decide) (by decide) (by decide)) e, IVg_cg (s2 78 (by decide) (by decide) (by decide) (by decide)) (s2 79 (by decide) (by decide) (by decide) (by decide)) (z 20 (by decide) (by decide) (by decide) (by decide) (by decide)) (f2 92 (by decide) (by decide)) f, ?_, ⟨hst.1, okI_fr (fun x q1 q2 => s2 x (by omega) (by omega) (by omega) (by omega)) t.2.1, hO, fun _ => hst, fun q => absurd (n3.symm.trans q) hne⟩⟩
  obtain ⟨g1, g2, g3, g4, g5, g6⟩ := g
  have e13 := s00 13 (by decide)
  have e14 := s00 14 (by decide)
  have e15 := s0 15
  have e3 := z 3 (by decide) (by decide) (by decide) (by decide) (by decide)
  have e18 := z 18 (by decide) (by decide) (by decide) (by decide) (by decide)
  refine ⟨by omega, by omega, by omega, by omega, by omega, by omega⟩
theorem pr_put (hn : n ≤ 429496728) {k b c : Int} (hk : I32 k) (hb : I32 b) (hc : I32 c) (h : IV n mem) : PR m_Cp_put m_Mo_put [(0, k), (0, b), (0, c)] 0 n mem := by
  have eN : mem 80 2 = mem 3 1 := h.2.1.2.2.1.1
  have hK := h.2.1.2.1
  have n4 := h.2.1.1.1
  obtain ⟨k1, k2, k3, k4, k5, k6⟩ := h.2.2.2.2.2.2.1
  refine zF_imp (s_Cp_put mem k b c hk hb hc h.2.2.2.2.2.2.2.1 h.2.1.1) (fun r m z => ?_)
  have e5 : (0 ≤ k ∧ k < 5) ↔ (0 ≤ k ∧ k ≤ 4) := by omega
  rw [e5] at z
  rcases z with z | z | z | z
  · refine ⟨_, z.2.1, ?_⟩
    rw [z.2.2]
    refine zF_imp (s_Mo_put mem k b c hk hb hc hK) (fun r' m' y => ?_)
    rcases y with y | y | y | y
    · exact ⟨y.2.1, by rw [y.2.2]; exact IV_le (by omega) h⟩
    · exact absurd y.1 z.1
    · exact absurd y.1 z.1
    · exact absurd y.1 z.1
  · refine ⟨_, z.2.2.1, ?_⟩
    rw [z.2.2.2]
    refine zF_imp (s_Mo_put mem k b c hk hb hc hK) (fun r' m' y => ?_)
    rcases y with y | y | y | y
    · exact absurd z.1 y.1
    · exact ⟨y.2.2.1, by rw [y.2.2.2]; exact IV_le (by omega) h⟩
    · omega
    · omega
  · refine ⟨_, z.2.2.1, ?_⟩
    rw [z.2.2.2]
    refine zF_imp (s_Mo_put mem k b c hk hb hc hK) (fun r' m' y => ?_)
    rcases y with y | y | y | y
    · exact absurd z.1 y.1
    · omega
    · exact ⟨y.2.2.1, by rw [y.2.2.2]; exact IV_le (by omega) h⟩
    · omega
  · obtain ⟨z1, z2, z3, z4⟩ := z
    obtain ⟨v1, v2, v3, v4, v5, v6⟩ := ac_v (mem := mem) (k := k) (b := b) (c := c) z2.2 n4.1
    obtain ⟨w1, w2⟩ := ac_0 (mem := mem) (k := k) (b := b) (c := c) z2.2 n4.1
    have w3 : ∀ a, a ≠ 0 → ¬ (3 ≤ a ∧ a ≤ 8) → acM mem k b c a = mem a := fun a q1 q2 => ac_fr2 (by omega) n4.1
    have fm : ∀ a, 52 ≤ a → m a = mem a := fun a q => (z4.2 a (by omega)).trans (w3 a (by omega) (by omega))
    have f80 := fm 80 (by decide)
    refine ⟨_, z3, zF_imp (s_Mo_put m k b c hk hb hc (moK_cg (by rw [f80]) (fm 82 (by decide)) (fm 83 (by decide)) (fm 84 (by decide)) hK)) (fun r' m' y => ?_)⟩
    rw [f80, eN] at y
    rcases y with y | y | y | y
    · exact absurd z1 y.1
    · omega
    · omega
    obtain ⟨_, _, y3, y4⟩ := y
    refine ⟨y3, ?_⟩
    unfold pmA2 nmM at y4
    rw [show zup (zup (zup m 82 (mem 3 1) k) 83 (mem 3 1) b) 84 (mem 3 1) c 80 4 = mem 80 4 by rw [zup_c (by decide), zup_c (by decide), zup_c (by decide), f80]] at y4
    have a82 : ∀ j, m' 82 j = if j = mem 3 1 then k else mem 82 j := fun j => by
      rw [y4, zup_c (by decide), zup_c (by decide), zup_c (by decide), zup_c (by decide), zup_c (by decide), zup_c (by decide), zup_v, fm 82 (by decide)]
    have a83 : ∀ j, m' 83 j = if j = mem 3 1 then b else mem 83 j := fun j => by
      rw [y4, zup_c (by decide), zup_c (by decide), zup_c (by decide), zup_c (by decide), zup_c (by decide), zup_v, zup_c (by decide), fm 83 (by decide)]
    have a84 : ∀ j, m' 84 j = if j = mem 3 1 then c else mem 84 j := fun j => by
      rw [y4, zup_c (by decide), zup_c (by decide), zup_c (by decide), zup_c (by decide), zup_v, zup_c (by decide), zup_c (by decide), fm 84 (by decide)]
    have a85 : ∀ j, m' 85 j = if j = mem 3 1 then mem 80 4 else mem 85 j := fun j => by
      rw [y4, zup_c (by decide), zup_c (by decide), zup_c (by decide), zup_v, zup_c (by decide), zup_c (by decide), zup_c (by decide), fm 85 (by decide)]
    have ao : ∀ a, a ≠ 80 → ¬ (82 ≤ a ∧ a ≤ 85) → m' a = m a := fun a q1 q2 => by
      rw [y4, zup_a q1, zup_a q1, zup_a q1, zup_a (by omega), zup_a (by omega), zup_a (by omega), zup_a (by omega)]
    have b2 : m' 80 2 = mem 3 1 + 1 := by rw [y4, zup_k (by decide), zup_s]
    have b4 : m' 80 4 = mem 80 4 + 1 := by rw [y4, zup_k (by decide), zup_k (by decide), zup_s]
    have bo : ∀ j, j ≠ 2 → j ≠ 4 → j ≠ 9 → m' 80 j = mem 80 j := fun j q1 q2 q3 => by
      rw [y4, zup_k q3, zup_k q1, zup_k q2, zup_c (by decide), zup_c (by decide), zup_c (by decide), zup_c (by decide), f80]
    have hR : rowE m' 3 82 2 := by
      have e3 : m' 3 1 = mem 3 1 + 1 := by rw [ao 3 (by decide) (by decide), z4.2 3 (by omega)]; exact v1
      refine ⟨by rw [b2, e3], fun j q1 q2 => ?_⟩
      rw [e3] at q2
      show m' 82 j = _ ∧ m' 83 j = _ ∧ m' 84 j = _ ∧ m' 85 j = _
      rw [a82, a83, a84, a85, ao (3 + 2 + j) (by omega) (by omega), z4.2 (3 + 2 + j) (by omega)]
      by_cases e : j = mem 3 1
      · rw [if_pos e, if_pos e, if_pos e, if_pos e, e, v3, v4, v5, v6]
        exact ⟨rfl, rfl, rfl, k3⟩
      · rw [if_neg e, if_neg e, if_neg e, if_neg e, v2 j q1 (by omega)]
        exact h.2.1.2.2.1.2 j q1 (by omega)
    refine IV_bld h (by omega) z4 (fun a q => ao a (by omega) (by omega)) (fun a q1 q2 q3 => w3 a q1 q2) w2 (fun a q1 q2 => (ao a (by omega) (by omega)).trans (fm a (by omega))) (fun j q1 q2 q3 _ _ => bo j q1 q2 q3) ⟨by rw [b2]; omega, fun j q1 q2 => ?_⟩ hR (fun j q1 q2 => ?_) (by rw [y4]; exact FRT_S old_1) (by rw [v1]; omega) ⟨by rw [b4, w1, k3], by omega, by omega⟩
    · rw [a82, a83, a84]
      by_cases e : j = mem 3 1
      · rw [if_pos e, if_pos e, if_pos e]
        exact z1
      · rw [if_neg e, if_neg e, if_neg e]
        exact hK.2 j q1 q2
    · rw [a85]
      split
      · rw [k3]
        exact ⟨by omega, by omega⟩
      · exact h.2.1.2.2.2 j q1 q2
theorem pr_take {i : Int} (hi : I32 i) (h : IV n mem) : PR m_Cp_take m_Mo_take [(0, i)] 0 n mem := by
  have eN : mem 80 2 = mem 3 1 := h.2.1.2.2.1.1
  have hK := h.2.1.2.1
  have n4 := h.2.1.1.1
  obtain ⟨k1, k2, k3, k4, k5, k6⟩ := h.2.2.2.2.2.2.1
  refine zF_imp (s_Cp_take mem i hi h.2.2.2.2.2.2.2.1 h.2.1.1) (fun r m z => ?_)
  rcases z with z | z | z
  · refine ⟨_, z.2.1, ?_⟩
    rw [z.2.2]
    refine zF_imp (s_Mo_take mem i hi hK) (fun r' m' y => ?_)
    rw [eN] at y
    rcases y with y | y | y
    · exact ⟨y.2.1, by rw [y.2.2]; exact IV_le (by omega) h⟩
    · exact absurd y.1 z.1
    · exact absurd y.1 z.1
  · refine ⟨_, z.2.2.1, ?_⟩
    rw [z.2.2.2]
    refine zF_imp (s_Mo_take mem i hi hK) (fun r' m' y => ?_)
    rw [eN] at y
    rcases y with y | y | y
    · exact absurd z.1 y.1
    · exact ⟨y.2.2.1, by rw [y.2.2.2]; exact IV_le (by omega) h⟩
    · exact absurd z.2.1 y.2.1
  · obtain ⟨z1, z2, z3, z4⟩ := z
    obtain ⟨v1, v2, v3⟩ := rm_v (mem := mem) (t := 3) (i := i) z1
    have w3 : ∀ a, ¬ (3 ≤ a ∧ a ≤ 8) → rmR mem 3 i a = mem a := fun a q2 => v2 a (by omega) (by omega)
    have fm : ∀ a, 52 ≤ a → m a = mem a := fun a q => (z4.2 a (by omega)).trans (w3 a (by omega))
    have f80 := fm 80 (by decide)
    refine ⟨_, z3, zF_imp (s_Mo_take m i hi (moK_cg (by rw [f80]) (fm 82 (by decide)) (fm 83 (by decide)) (fm 84 (by decide)) hK)) (fun r' m' y => ?_)⟩
    rw [f80, eN, fm 85 (by decide)] at y
    rcases y with y | y | y
    · exact absurd z1 y.1
    · exact absurd y.2.1 z2
    obtain ⟨_, _, y3, m2, ⟨t1, t2, t3⟩, y4⟩ := y
    refine ⟨by rw [y3]; exact congrArg (fun x => some (0, x)) (h.2.1.2.2.1.2 i z1.1 z1.2).2.2.2, ?_⟩
    have ao : ∀ a, a ≠ 80 → ¬ (82 ≤ a ∧ a ≤ 85) → m' a = m a := fun a q1 q2 => by
      rw [y4, zup_a q1, t1 a q2, zup_a q1]
    have aw : ∀ a j, 82 ≤ a → a ≤ 85 → m' a j = if i ≤ j ∧ j < mem 3 1 - 1 then mem a (j + 1) else mem a j := fun a j q1 q2 => by
      rw [y4, zup_c (by omega)]
      split
      · rename_i q
        rw [t3 j a q1 q2 q.1 q.2, zup_c (by omega), fm a (by omega)]
      · rename_i q
        rw [t2 j a q1 q2 (by omega), zup_c (by omega), fm a (by omega)]
    have b2 : m' 80 2 = mem 3 1 - 1 := by rw [y4, zup_k (by decide), t1 80 (by decide), zup_s]
    have bo : ∀ j, j ≠ 2 → j ≠ 9 → m' 80 j = mem 80 j := fun j q1 q3 => by
      rw [y4, zup_k q3, t1 80 (by decide), zup_k q1, f80]
    have hR : rowE m' 3 82 2 := by
      have e3 : m' 3 1 = mem 3 1 - 1 := by rw [ao 3 (by decide) (by decide), z4.2 3 (by omega)]; exact v1
      refine ⟨by rw [b2, e3], fun j q1 q2 => ?_⟩
      rw [e3] at q2
      show m' 82 j = _ ∧ m' 83 j = _ ∧ m' 84 j = _ ∧ m' 85 j = _
      rw [aw 82 j (by decide) (by decide), aw 83 j (by decide) (by decide), aw 84 j (by decide) (by decide), aw 85 j (by decide) (by decide), ao (3 + 2 + j) (by omega) (by omega), z4.2 (3 + 2 + j) (by omega)]
      by_cases e : i ≤ j ∧ j < mem 3 1 - 1
      · rw [if_pos e, if_pos e, if_pos e, if_pos e, v3 j e.1 e.2 0 (by decide), v3 j e.1 e.2 1 (by decide), v3 j e.1 e.2 2 (by decide), v3 j e.1 e.2 3 (by decide)]
        exact h.2.1.2.2.1.2 (j + 1) (by omega) (by omega)
      · rw [if_neg e, if_neg e, if_neg e, if_neg e, v2 (3 + 2 + j) (by omega) (by omega)]
        exact h.2.1.2.2.1.2 j q1 (by omega)
    refine IV_bld h (by omega) z4 (fun a q => ao a (by omega) (by omega)) (fun a q1 q2 q3 => w3 a q2) (fun j q => by rw [w3 0 (by decide)]) (fun a q1 q2 => (ao a (by omega) (by omega)).trans (fm a (by omega))) (fun j q1 q2 q3 _ _ => bo j q1 q3) ⟨by rw [b2]; omega, fun j q1 q2 => ?_⟩ hR (fun j q1 q2 => ?_) (by rw [y4]; exact FRT_S old_1) (by rw [v1]; omega) ⟨by rw [bo 4 (by decide) (by decide), w3 0 (by decide)]; exact k3, by rw [w3 0 (by decide)]; omega, by rw [w3 0 (by decide)]; omega⟩
    · rw [aw 82 j (by decide) (by decide), aw 83 j (by decide) (by decide), aw 84 j (by decide) (by decide)]
      by_cases e : i ≤ j ∧ j < mem 3 1 - 1
      · rw [if_pos e, if_pos e, if_pos e]
        exact hK.2 (j + 1) (by omega) (by omega)
      · rw [if_neg e, if_neg e, if_neg e]
        exact hK.2 j q1 q2
    · rw [aw 85 j (by decide) (by decide)]
      split
      · exact h.2.1.2.2.2 (j + 1) (by omega) (by omega)
      · exact h.2.1.2.2.2 j q1 q2
theorem pr_change {i k : Int} (hi : I32 i) (hk : I32 k) (h : IV n mem) : PR m_Cp_change m_Mo_change [(0, i), (0, k)] 0 n mem := by
  have eN : mem 80 2 = mem 3 1 := h.2.1.2.2.1.1
  have hK := h.2.1.2.1
  have n4 := h.2.1.1.1
  obtain ⟨k1, k2, k3, k4, k5, k6⟩ := h.2.2.2.2.2.2.1
  refine zF_imp (s_Cp_change mem i k hi hk h.2.2.2.2.2.2.2.1 h.2.1.1) (fun r m z => ?_)
  rcases z with z | z | z
  · refine ⟨_, z.2.1, ?_⟩
    rw [z.2.2]
    refine zF_imp (s_Mo_change mem i k hi hk hK) (fun r' m' y => ?_)
    rw [eN] at y
    rcases y with y | y | y
    · exact ⟨y.2.1, by rw [y.2.2]; exact IV_le (by omega) h⟩
    · exact absurd y.1 z.1
    · exact absurd y.1 z.1
  · refine ⟨_, z.2.2.1, ?_⟩
    rw [z.2.2.2]
    refine zF_imp (s_Mo_change mem i k hi hk hK) (fun r' m' y => ?_)
    rw [eN] at y
    rcases y with y | y | y
    · exact absurd z.1 y.1
    · exact ⟨y.2.2.1, by rw [y.2.2.2]; exact IV_le (by omega) h⟩
    · exact absurd y.2.1 z.2.1
  · obtain ⟨z1, z2, z3, z4⟩ := z
    have w3 : ∀ a, ¬ (3 ≤ a ∧ a ≤ 8) → zup mem (3 + 2 + i) 0 k a = mem a := fun a q2 => zup_a (by omega)
    have e31 : zup mem (3 + 2 + i) 0 k 3 1 = mem 3 1 := zup_k (by decide)
    have fm : ∀ a, 52 ≤ a → m a = mem a := fun a q => (z4.2 a (by omega)).trans (w3 a (by omega))
    have f80 := fm 80 (by decide)
    refine ⟨_, z3, zF_imp (s_Mo_change m i k hi hk (moK_cg (by rw [f80]) (fm 82 (by decide)) (fm 83 (by decide)) (fm 84 (by decide)) hK)) (fun r' m' y => ?_)⟩
    rw [f80, eN, fm 82 (by decide)] at y
    rcases y with y | y | y
    · exact absurd z1 y.1
    · exact absurd z2 y.2.1
    obtain ⟨_, _, y3, y4⟩ := y
    refine ⟨by rw [y3]; exact congrArg (fun x => some (0, x)) (h.2.1.2.2.1.2 i z1.1 z1.2).1, ?_⟩
    have ao : ∀ a, a ≠ 80 → a ≠ 82 → m' a = m a := fun a q1 q2 => by rw [y4, zup_a q1, zup_a q2]
    have a82 : ∀ j, m' 82 j = if j = i then k else mem 82 j := fun j => by rw [y4, zup_c (by decide), zup_v, fm 82 (by decide)]
    have bo : ∀ j, j ≠ 9 → m' 80 j = mem 80 j := fun j q3 => by rw [y4, zup_k q3, zup_c (by decide), f80]
    have hR : rowE m' 3 82 2 := by
      have e3 : m' 3 1 = mem 3 1 := by rw [ao 3 (by decide) (by decide), z4.2 3 (by omega)]; exact e31
      refine ⟨by rw [bo 2 (by decide), e3]; exact eN, fun j q1 q2 => ?_⟩
      rw [e3] at q2
      show m' 82 j = _ ∧ m' 83 j = _ ∧ m' 84 j = _ ∧ m' 85 j = _
      rw [a82, ao 83 (by decide) (by decide), ao 84 (by decide) (by decide), ao 85 (by decide) (by decide), fm 83 (by decide), fm 84 (by decide), fm 85 (by decide), ao (3 + 2 + j) (by omega) (by omega), z4.2 (3 + 2 + j) (by omega)]
      have y := h.2.1.2.2.1.2 j q1 q2
      by_cases e : j = i
      · rw [if_pos e, ← e, zup_s, zup_k (by decide), zup_k (by decide), zup_k (by decide)]
        exact ⟨rfl, y.2⟩
      · rw [if_neg e, zup_a (by omega)]
        exact y
    refine IV_bld h (by omega) z4 (fun a q => ao a (by omega) (by omega)) (fun a q1 q2 q3 => w3 a q2) (fun j q => by rw [w3 0 (by decide)]) (fun a q1 q2 => (ao a (by omega) (by omega)).trans (fm a (by omega))) (fun j q1 q2 q3 _ _ => bo j q3) ⟨by rw [bo 2 (by decide)]; exact hK.1, fun j q1 q2 => ?_⟩ hR (fun j q1 q2 => ?_) (by rw [y4]; exact FRT_S old_1) (by rw [e31]; omega) ⟨by rw [bo 4 (by decide), w3 0 (by decide)]; exact k3, by rw [w3 0 (by decide)]; omega, by rw [w3 0 (by decide)]; omega⟩
    · rw [a82, ao 83 (by decide) (by decide), ao 84 (by decide) (by decide), fm 83 (by decide), fm 84 (by decide)]
      have y := hK.2 j q1 q2
      split
      · exact ⟨by omega, y.2⟩
      · exact y
    · rw [ao 85 (by decide) (by decide), fm 85 (by decide)]
      exact h.2.1.2.2.2 j q1 q2
theorem FRm_cl {mx : zMem} (hF : FRm mx m') (h : IV n m') (hne : m' 3 1 ≠ 0) : clA m' = m' 31 2 + 2 * scS m' 31 := (LX_cl (IV_LX h hne rfl rfl rfl rfl (by rw [FRm_A hF]; exact hF.1))).symm
theorem pr_move {i b c : Int} (hi : I32 i) (hb : I32 b) (hc : I32 c) (h : IV n mem) : PR m_Cp_move m_Mo_move [(0, i), (0, b), (0, c)] 0 n mem := by
  have eN : mem 80 2 = mem 3 1 := h.2.1.2.2.1.1
  have hK := h.2.1.2.1
  have n4 := h.2.1.1.1
  obtain ⟨k1, k2, k3, k4, k5, k6⟩ := h.2.2.2.2.2.2.1
  refine zF_imp (s_Cp_move mem i b c hi hb hc h.2.2.2.2.2.2.2.1 h.2.1.1) (fun r m z => ?_)
  rcases z with z | z | z
  · refine ⟨_, z.2.1, ?_⟩
    rw [z.2.2]
    refine zF_imp (s_Mo_move mem i b c hi hb hc hK) (fun r' m' y => ?_)
    rw [eN] at y
    rcases y with y | y | y
    · exact ⟨y.2.1, by rw [y.2.2]; exact IV_le (by omega) h⟩
    · exact absurd y.1 z.1
    · exact absurd y.1 z.1
  · refine ⟨_, z.2.2.1, ?_⟩
    rw [z.2.2.2]
    refine zF_imp (s_Mo_move mem i b c hi hb hc hK) (fun r' m' y => ?_)
    rw [eN] at y
    rcases y with y | y | y
    · exact absurd z.1 y.1
    · exact ⟨y.2.2.1, by rw [y.2.2.2]; exact IV_le (by omega) h⟩
    · exact absurd y.2.1 z.2.1
  · obtain ⟨z1, z2, z3, z4⟩ := z
    have w3 : ∀ a, ¬ (3 ≤ a ∧ a ≤ 8) → zup (zup mem (3 + 2 + i) 1 b) (3 + 2 + i) 2 c a = mem a := fun a q2 => by rw [zup_a (by omega), zup_a (by omega)]
    have e31 : zup (zup mem (3 + 2 + i) 1 b) (3 + 2 + i) 2 c 3 1 = mem 3 1 := by rw [zup_c (by omega), zup_c (by omega)]
    have fm : ∀ a, 52 ≤ a → m a = mem a := fun a q => (z4.2 a (by omega)).trans (w3 a (by omega))
    have f80 := fm 80 (by decide)
    refine ⟨_, z3, zF_imp (s_Mo_move m i b c hi hb hc (moK_cg (by rw [f80]) (fm 82 (by decide)) (fm 83 (by decide)) (fm 84 (by decide)) hK)) (fun r' m' y => ?_)⟩
    rw [f80, eN] at y
    rcases y with y | y | y
    · exact absurd z1 y.1
    · exact absurd z2 y.2.1
    obtain ⟨_, _, y3, y4⟩ := y
    have ao : ∀ a, a ≠ 80 → ¬ (83 ≤ a ∧ a ≤ 84) → ¬ (86 ≤ a ∧ a ≤ 91) → m' a = m a := fun a q1 q2 q3 => by rw [y4.2.1.1 a q1 (by omega), zup_a q1, zup_a (by omega), zup_a (by omega)]
    have a83 : ∀ j, m' 83 j = if j = i then b else mem 83 j := fun j => by rw [y4.2.1.1 83 (by decide) (by omega), zup_c (by decide), zup_c (by decide), zup_v, fm 83 (by decide)]
    have a84 : ∀ j, m' 84 j = if j = i then c else mem 84 j := fun j => by rw [y4.2.1.1 84 (by decide) (by omega), zup_c (by decide), zup_v, zup_c (by decide), fm 84 (by decide)]
    have bo : ∀ j, j ≠ 9 → j ≠ 14 → j ≠ 15 → m' 80 j = mem 80 j := fun j q1 q2 q3 => by rw [y4.2.1.2 j q1 q2 q3, zup_k q1, zup_c (by decide), zup_c (by decide), f80]
    have e3 : m' 3 1 = mem 3 1 := by rw [ao 3 (by decide) (by decide) (by decide), z4.2 3 (by omega)]; exact e31
    have hR : rowE m' 3 82 2 := by
      refine ⟨by rw [bo 2 (by decide) (by decide) (by decide), e3]; exact eN, fun j q1 q2 => ?_⟩
      rw [e3] at q2
      show m' 82 j = _ ∧ m' 83 j = _ ∧ m' 84 j = _ ∧ m' 85 j = _
      rw [a83, a84, ao 82 (by decide) (by decide) (by decide), ao 85 (by decide) (by decide) (by decide), fm 82 (by decide), fm 85 (by decide), ao (3 + 2 + j) (by omega) (by omega) (by omega), z4.2 (3 + 2 + j) (by omega)]
      have y := h.2.1.2.2.1.2 j q1 q2
      by_cases e : j = i
      · rw [if_pos e, if_pos e, ← e, zup_s, zup_k (by decide), zup_k (by decide), zup_k (by decide), zup_s, zup_k (by decide), zup_k (by decide)]
        exact ⟨y.1, rfl, rfl, y.2.2.2⟩
      · rw [if_neg e, if_neg e, zup_a (by omega), zup_a (by omega)]
        exact y
    have hI : IV (n + 1) m' := by
      refine IV_bld h (by omega) z4 (fun a q => ao a (by omega) (by omega) (by omega)) (fun a q1 q2 q3 => w3 a q2) (fun j q => by rw [w3 0 (by decide)]) (fun a q1 q2 => (ao a (by omega) (by omega) (by omega)).trans (fm a (by omega))) (fun j q1 q2 q3 q4 q5 => bo j q3 q4 q5) ⟨by rw [bo 2 (by decide) (by decide) (by decide)]; exact hK.1, fun j q1 q2 => ?_⟩ hR (fun j q1 q2 => ?_) (FRm_S y4) (by rw [e31]; omega) ⟨by rw [bo 4 (by decide) (by decide) (by decide), w3 0 (by decide)]; exact k3, by rw [w3 0 (by decide)]; omega, by rw [w3 0 (by decide)]; omega⟩
      · rw [a83, a84, ao 82 (by decide) (by decide) (by decide), fm 82 (by decide)]
        have y := hK.2 j q1 q2
        split
        · exact ⟨y.1, z2⟩
        · exact y
      · rw [ao 85 (by decide) (by decide) (by decide), fm 85 (by decide)]
        exact h.2.1.2.2.2 j q1 q2
    refine ⟨?_, hI⟩
    rw [y3, FRm_cl y4 hI (by rw [e3]; omega)]
    unfold scS
    rw [ao 31 (by decide) (by decide) (by decide), ao (31 + 2) (by decide) (by decide) (by decide)]
theorem pr_mirror (h : IV n mem) : PR m_Cp_mirror m_Mo_mirror [] 0 n mem := by
  have eN : mem 80 2 = mem 3 1 := h.2.1.2.2.1.1
  have hK := h.2.1.2.1
  have n4 := h.2.1.1.1
  obtain ⟨k1, k2, k3, k4, k5, k6⟩ := h.2.2.2.2.2.2.1
  refine zF_imp (s_Cp_mirror mem h.2.2.2.2.2.2.2.1 h.2.1.1) (fun r m z => ?_)
  rcases z with z | z
  · refine ⟨_, z.2.1, ?_⟩
    rw [z.2.2]
    refine zF_imp (s_Mo_mirror mem hK) (fun r' m' y => ?_)
    rw [eN] at y
    rcases y with y | y
    · exact ⟨y.2.1, by rw [y.2.2]; exact IV_le (by omega) h⟩
    · exact absurd z.1 y.1
  · obtain ⟨z1, z3, m1, ⟨u1, u2⟩, z4⟩ := z
    have w3 : ∀ a, ¬ (5 ≤ a ∧ a ≤ 8) → m1 a = mem a := fun a q2 => u1 a (by omega)
    have fm : ∀ a, 52 ≤ a → m a = mem a := fun a q => (z4.2 a (by omega)).trans (w3 a (by omega))
    have f80 := fm 80 (by decide)
    have e31 : m1 3 1 = mem 3 1 := by rw [w3 3 (by decide)]
    refine ⟨_, z3, zF_imp (s_Mo_mirror m (moK_cg (by rw [f80]) (fm 82 (by decide)) (fm 83 (by decide)) (fm 84 (by decide)) hK)) (fun r' m' y => ?_)⟩
    rw [f80, eN] at y
    rcases y with y | y
    · exact absurd y.1 z1
    obtain ⟨_, y3, m2, ⟨t1, t2⟩, y4⟩ := y
    have ao : ∀ a, a ≠ 80 → ¬ (83 ≤ a ∧ a ≤ 84) → ¬ (86 ≤ a ∧ a ≤ 91) → m' a = m a := fun a q1 q2 q3 => by rw [y4.2.1.1 a q1 (by omega), zup_a q1, t1 a (by omega) (by omega)]
    have a83 : ∀ j, m' 83 j = if 0 ≤ j ∧ j < mem 3 1 then 0 - mem 83 j else mem 83 j := fun j => by rw [y4.2.1.1 83 (by decide) (by omega), zup_c (by decide), (t2 j).1, fm 83 (by decide)]
    have a84 : ∀ j, m' 84 j = if 0 ≤ j ∧ j < mem 3 1 ∧ mem 82 j = 3 then 0 - mem 84 j else mem 84 j := fun j => by rw [y4.2.1.1 84 (by decide) (by omega), zup_c (by decide), (t2 j).2, fm 84 (by decide), fm 82 (by decide)]
    have bo : ∀ j, j ≠ 9 → j ≠ 14 → j ≠ 15 → m' 80 j = mem 80 j := fun j q1 q2 q3 => by rw [y4.2.1.2 j q1 q2 q3, zup_k q1, t1 80 (by decide) (by decide), f80]
    have e3 : m' 3 1 = mem 3 1 := by rw [ao 3 (by decide) (by decide) (by decide), z4.2 3 (by omega)]; exact e31
    have hR : rowE m' 3 82 2 := by
      refine ⟨by rw [bo 2 (by decide) (by decide) (by decide), e3]; exact eN, fun j q1 q2 => ?_⟩
      rw [e3] at q2
      have y := h.2.1.2.2.1.2 j q1 q2
      have y1 : mem 82 j = mem (3 + 2 + j) 0 := y.1
      have y2 : mem 83 j = mem (3 + 2 + j) 1 := y.2.1
      have y5 : mem 84 j = mem (3 + 2 + j) 2 := y.2.2.1
      have y6 : mem 85 j = mem (3 + 2 + j) 3 := y.2.2.2
      show m' 82 j = _ ∧ m' 83 j = _ ∧ m' 84 j = _ ∧ m' 85 j = _
      rw [a83, a84, ao 82 (by decide) (by decide) (by decide), ao 85 (by decide) (by decide) (by decide), fm 82 (by decide), fm 85 (by decide), ao (3 + 2 + j) (by omega) (by omega) (by omega), z4.2 (3 + 2 + j) (by omega), u2 j q1 q2, if_pos ⟨q1, q2⟩]
      unfold toC
      by_cases e : mem (3 + 2 + j) 0 = 3
      · rw [if_pos e, if_pos ⟨q1, q2, by rw [y1]; exact e⟩, zup_s, zup_k (by decide), zup_k (by decide), zup_k (by decide), zup_s, zup_k (by decide), zup_k (by decide)]
        exact ⟨y1, by omega, by omega, y6⟩
      · rw [if_neg e, if_neg (fun x => e (by rw [← y1]; exact x.2.2)), zup_s, zup_k (by decide), zup_k (by decide), zup_k (by decide)]
        exact ⟨y1, by omega, y5, y6⟩
    have hI : IV (n + 1) m' := by
      refine IV_bld h (by omega) z4 (fun a q => ao a (by omega) (by omega) (by omega)) (fun a q1 q2 q3 => w3 a (by omega)) (fun j q => by rw [w3 0 (by decide)]) (fun a q1 q2 => (ao a (by omega) (by omega) (by omega)).trans (fm a (by omega))) (fun j q1 q2 q3 q4 q5 => bo j q3 q4 q5) ⟨by rw [bo 2 (by decide) (by decide) (by decide)]; exact hK.1, fun j q1 q2 => ?_⟩ hR (fun j q1 q2 => ?_) (FRm_S y4) (by rw [e31]; exact z1) ⟨by rw [bo 4 (by decide) (by decide) (by decide), w3 0 (by decide)]; exact k3, by rw [w3 0 (by decide)]; omega, by rw [w3 0 (by decide)]; omega⟩
      · rw [a83, a84, ao 82 (by decide) (by decide) (by decide), fm 82 (by decide)]
        have y := hK.2 j q1 q2
        split <;> split <;> omega
      · rw [ao 85 (by decide) (by decide) (by decide), fm 85 (by decide)]
        exact h.2.1.2.2.2 j q1 q2
    refine ⟨?_, hI⟩
    rw [y3, FRm_cl y4 hI (by rw [e3]; exact z1)]
    unfold scS
    rw [ao 31 (by decide) (by decide) (by decide), ao (31 + 2) (by decide) (by decide) (by decide)]
end zPR
