/-! pairs of calls: points, stacks, cells, neighbours, counts, pieces, sentences, loose ones -/
section zPQ
variable {m m' mem : zMem} {n : Int}
theorem IV_ns (h : IV n mem) : nsA mem = mem 31 2 ∧ npA mem = mem 31 1 := by
  have hc := IV_cur h
  obtain ⟨_, _, _, _, _, _, _, t1, t2, t3, t4, t5⟩ := h
  unfold nsA npA
  by_cases e : mem 3 1 = 0
  · obtain ⟨z1, z2⟩ := t5 e
    rw [cif_t (by rw [hc.1]; exact e), cif_t (by rw [hc.1]; exact e), z1, z2]
    exact ⟨rfl, rfl⟩
  · rw [cif_f (by rw [hc.1]; exact e), cif_f (by rw [hc.1]; exact e), lp_pt hc, (t4 e).2.2.1, (t4 e).2.1.2.1]
    exact ⟨rfl, rfl⟩
theorem FZ_LX (h : IV n mem) (hF : FZ mem m) (hs : 0 < mem 31 1 ∨ 0 < mem 31 2) : LX mem m := by
  have hc := IV_cur h
  have e : mem 3 1 ≠ 0 := fun z => by have := h.2.2.2.2.2.2.2.2.2.2.2 z; omega
  rcases hF with ⟨z, _⟩ | ⟨_, hF⟩
  · exact absurd (hc.1.symm.trans z) e
  · exact FRm_LX h e hF
theorem pr_point {p w : Int} (hp : I32 p) (hw : I32 w) (h : IV n mem) : PR m_Cp_point m_Mo_point [(0, p), (0, w)] 0 n mem := by
  have hns := IV_ns h
  refine PR_of (s_Cp_point mem p w hp hw (IV_okT h) h.2.2.2.2.2.2.2.1.2.2 _ (IV_PTS h)) (s_Mo_point mem p w hp hw h.2.1.2.1 h.2.2.2.2.2.2.2.2.2.1) (fun r m z => ⟨?_, FZ_sam h z.1⟩)
  rw [z.2, hns.2]
  by_cases c : 0 ≤ p ∧ p < mem 31 1
  · have hX := FZ_LX h z.1 (Or.inl (by omega))
    rw [if_pos c, if_pos c, LX_tp hX ⟨c.1, by rw [← (LX_n hX).2.2.2.2.2.1]; exact c.2⟩]
    rfl
  · rw [if_neg c, if_neg c]
theorem pr_stack {v : Int} (hv : I32 v) (h : IV n mem) : PR m_Cp_stack m_Mo_stack [(0, v)] 0 n mem := by
  have hns := IV_ns h
  refine PR_of (s_Cp_stack mem v hv (IV_okT h)) (s_Mo_stack mem v hv h.2.1.2.1 h.2.2.2.2.2.2.2.2.2.1) (fun r m z => ⟨?_, FZ_sam h z.1⟩)
  rw [z.2, hns.1]
  by_cases c : 0 ≤ v ∧ v < mem 31 2
  · have hX := FZ_LX h z.1 (Or.inr (by omega))
    have e : mem 33 v = 2 * m 91 v := (LX_t hX c).1
    rw [if_pos c, if_pos c, e]
  · rw [if_neg c, if_neg c]
theorem pr_cell {s j c : Int} (hs : I32 s) (hj : I32 j) (hc : I32 c) (h : IV n mem) : PR m_Cp_cell m_Mo_cell [(0, s), (0, j), (0, c)] 0 n mem := by
  have hns := IV_ns h
  refine PR_of (s_Cp_cell mem s j c hs hj hc (IV_okT h) h.2.1.1.1) (s_Mo_cell mem s j c hs hj hc h.2.1.2.1 h.2.2.2.2.2.2.2.2.2.1) (fun r m z => ⟨?_, FZ_sam h z.1⟩)
  rw [z.2, hns.1]
  by_cases q : 0 ≤ s ∧ s < mem 31 2
  · have hX := FZ_LX h z.1 (Or.inr (by omega))
    have e : mem (31 + 2) s = 2 * m 91 s := (LX_t hX q).1
    have e2 : m 80 2 = mem 3 1 := (LX_n hX).2.2.2.1.symm
    rw [e, e2]
    by_cases q2 : (0 ≤ j ∧ j ≤ 2 * m 91 s) ∧ 0 ≤ c ∧ c < mem 3 1
    · rw [if_pos ⟨⟨q, q2.1⟩, q2.2⟩, if_pos ⟨⟨q.1, q.2, q2.1⟩, q2.2⟩, LX_s hX q q2.2]
    · rw [if_neg (fun y => q2 ⟨y.1.2, y.2⟩), if_neg (fun y => q2 ⟨y.1.2.2, y.2⟩)]
  · rw [if_neg (fun y => q y.1.1), if_neg (fun y => q ⟨y.1.1, y.1.2.1⟩)]
theorem pr_neighbours {s j : Int} (hs : I32 s) (hj : I32 j) (h : IV n mem) : PR m_Cp_neighbours m_Mo_neighbours [(0, s), (0, j)] 0 n mem := by
  have hns := IV_ns h
  refine PR_of (s_Cp_neighbours mem s j hs hj (IV_okT h)) (s_Mo_neighbours mem s j hs hj h.2.1.2.1 h.2.2.2.2.2.2.2.2.2.1) (fun r m z => ⟨?_, FZ_sam h z.1⟩)
  rw [z.2, hns.1]
  by_cases q : 0 ≤ s ∧ s < mem 31 2
  · have hX := FZ_LX h z.1 (Or.inr (by omega))
    have e : mem (31 + 2) s = 2 * m 91 s := (LX_t hX q).1
    rw [e]
    by_cases q2 : 0 ≤ j ∧ j ≤ 2 * m 91 s
    · rw [if_pos ⟨q, q2⟩, if_pos ⟨q.1, q.2, q2⟩, LX_nb hX q q2]
    · rw [if_neg (fun y => q2 y.2), if_neg (fun y => q2 y.2.2)]
  · rw [if_neg (fun y => q y.1), if_neg (fun y => q ⟨y.1, y.2.1⟩)]
theorem cn_eq {w : Int} (h : IV n mem) (hM : 1 ≤ w ∧ w ≤ 4 → mem 80 2 ≠ 0 → LX mem m) (hF : ∀ k, k ≠ 9 → k ≠ 14 → k ≠ 15 → k ≠ 33 → m 80 k = mem 80 k) : cnM m w = cntX mem w := by
  have eN : mem 80 2 = mem 3 1 := h.2.1.2.2.1.1
  have e1 : m 80 1 = mem 1 1 := (hF 1 (by decide) (by decide) (by decide) (by decide)).trans h.1.2.1
  have e2 : m 80 2 = mem 3 1 := (hF 2 (by decide) (by decide) (by decide) (by decide)).trans eN
  have e3 : m 80 3 = mem 0 13 := (hF 3 (by decide) (by decide) (by decide) (by decide)).trans h.2.2.2.2.2.2.1.1
  have e4 : m 80 4 = mem 0 15 := (hF 4 (by decide) (by decide) (by decide) (by decide)).trans h.2.2.2.2.2.2.1.2.2.1
  have e18 : m 80 18 = mem 0 14 := (hF 18 (by decide) (by decide) (by decide) (by decide)).trans h.2.2.2.2.2.2.1.2.1
  have e20 : m 80 20 = mem 78 2 := (hF 20 (by decide) (by decide) (by decide) (by decide)).trans h.2.2.2.2.2.1.2.2.1
  have e22 : m 80 22 = mem 21 4 := (hF 22 (by decide) (by decide) (by decide) (by decide)).trans h.2.2.1.2.1
  unfold cnM cntX
  rw [e1, e2, e3, e4, e18, e20, e22]
  by_cases w0 : w = 0
  · rw [if_pos w0, if_pos w0]
  rw [if_neg w0, if_neg w0]
  by_cases w14 : 1 ≤ w ∧ w ≤ 4
  · rw [if_pos w14]
    unfold cpM
    by_cases e0 : mem 3 1 = 0
    · have z := h.2.2.2.2.2.2.2.2.2.2.2 e0
      have zs : scS mem 31 = 0 := by
        unfold scS
        exact zsm_e (by omega)
      rw [if_pos (by rw [e2]; exact e0), zs, z.1, z.2]
      split
      · rfl
      split
      · rfl
      split
      · rfl
      split
      · rfl
      · omega
    · have hX := hM w14 (by rw [eN]; exact e0)
      have z := LX_n hX
      rw [if_neg (by rw [e2]; exact e0), ← z.1, ← z.2.1, ← LX_cl hX, ← LX_sc hX]
      by_cases a1 : w = 1
      · rw [if_pos a1, if_pos a1]
      rw [if_neg a1, if_neg a1]
      by_cases a2 : w = 2
      · rw [if_pos a2, if_pos a2]
      rw [if_neg a2, if_neg a2]
      by_cases a3 : w = 3
      · rw [if_pos a3, if_pos a3]
      rw [if_neg a3, if_neg a3, if_pos (by omega)]
  · rw [if_neg w14, if_neg (show ¬ w = 1 by omega), if_neg (show ¬ w = 2 by omega), if_neg (show ¬ w = 3 by omega), if_neg (show ¬ w = 4 by omega)]
theorem pr_count {w : Int} (hw : I32 w) (h : IV n mem) : PR m_Cp_count m_Mo_count [(0, w)] 0 n mem := by
  refine PR_of (s_Cp_count mem w hw (IV_okT h)) (s_Mo_count mem w hw h.2.1.2.1 h.2.2.2.2.2.2.2.2.2.1) (fun r m z => ?_)
  have eN : mem 80 2 = mem 3 1 := h.2.1.2.2.1.1
  rcases z.1 with ⟨c, hm⟩ | ⟨c, hF⟩
  · rw [z.2, hm]
    exact ⟨by rw [cn_eq h (fun q => absurd q c) (fun k _ _ _ _ => rfl)], IV_le (by omega) h⟩
  · refine ⟨?_, FZ_sam h hF⟩
    rw [z.2]
    rcases hF with ⟨e0, hm⟩ | ⟨e0, hF⟩
    · rw [hm, cn_eq h (fun _ q => absurd e0 q) (fun k _ _ _ _ => rfl)]
    · rw [cn_eq h (fun _ q => FRm_LX h (by rw [← eN]; exact q) hF) (fun k q1 q2 q3 _ => hF.2.1.2 k q1 q2 q3)]
theorem bit_iff {k : Int} : (k = 0 ∨ k = 1) ↔ (0 ≤ k ∧ k ≤ 1) := by omega
theorem moK_cg (h2 : m' 80 2 = m 80 2) (h82 : m' 82 = m 82) (h83 : m' 83 = m 83) (h84 : m' 84 = m 84) (h : moK m) : moK m' := by
  unfold moK
  rw [h2, h82, h83, h84]
  exact h
theorem rdF_n {k f a : Int} (h : a ≠ 73) (h2 : a ≠ 74) : rdF mem k f a = mem a := by
  unfold rdF
  rw [zup_a h2, zup_a h2, zup_a h2, zup_a h2, zup_a h]
theorem pr_pieces {k f : Int} (hk : I32 k) (hf : I32 f) (h : IV n mem) : PR m_Cp_pieces m_Mo_pieces [(0, k), (0, f)] 0 n mem := by
  have eN : mem 80 2 = mem 3 1 := h.2.1.2.2.1.1
  have hK := h.2.1.2.1
  have hO := h.2.2.2.2.2.2.2.2.2.1
  have hb : hbX mem 31 := IV_hb h
  by_cases c1 : (k = 0 ∨ k = 1) ∧ okF f
  · have c1' : (0 ≤ k ∧ k ≤ 1) ∧ okF f := ⟨bit_iff.mp c1.1, c1.2⟩
    by_cases c2 : mem 3 1 = 0
    · refine PR_of (m1 := mem) (v := -103) (zF_imp (s_Cp_pieces mem k f hk hf (IV_okT h) hb h.2.1.1.1) (fun r m z => ?_)) (s_Mo_pieces mem k f hk hf hK hO) (fun r m z => ?_)
      · rcases z with z | z | z
        · exact absurd c1 z.1
        · exact z.2.2
        · exact absurd c2 z.2.1
      · rcases z with z | z | z
        · exact absurd c1' z.1
        · exact ⟨z.2.2.1, by rw [z.2.2.2]; exact IV_le (by omega) h⟩
        · exact absurd (eN.trans c2) z.2.1
    · refine zF_imp (s_Cp_pieces mem k f hk hf (IV_okT h) hb h.2.1.1.1) (fun r m z => ?_)
      rcases z with z | z | z
      · exact absurd c1 z.1
      · exact absurd z.2.1 c2
      obtain ⟨_, _, v, hr, hN⟩ := z
      have fr : ∀ a, ¬ (73 ≤ a ∧ a ≤ 76) → m a = mem a := fun a q => (hN.1 a (by omega) (by omega)).trans (rdF_n (by omega) (by omega))
      have f80 := fr 80 (by decide)
      have hO1 : FRS m := FRS_cg (fun a q1 q2 => fr a (by omega)) (by rw [f80]) (by rw [f80]) (by rw [f80]) (by rw [f80]) hO
      refine ⟨v, hr, zF_imp (s_Mo_pieces m k f hk hf (moK_cg (by rw [f80]) (fr 82 (by decide)) (fr 83 (by decide)) (fr 84 (by decide)) hK) hO1) (fun r' m' z => ?_)⟩
      rcases z with z | z | z
      · exact absurd c1' z.1
      · rw [f80] at z
        exact absurd (eN.symm.trans z.2.1) c2
      obtain ⟨_, _, m1, v', hF, hr', hN'⟩ := z
      have eA : lpA m (-1) = lpA mem (-1) := lpA_cg (fr 82 (by decide)) (fr 83 (by decide)) (fr 84 (by decide)) (by rw [f80]) _
      have hX : LX mem m1 := IV_LX h c2 ((hF.2.1.1 82 (by decide) (by omega)).trans (fr 82 (by decide))) ((hF.2.1.1 83 (by decide) (by omega)).trans (fr 83 (by decide))) ((hF.2.1.1 84 (by decide) (by omega)).trans (fr 84 (by decide))) ((hF.2.1.2 2 (by decide) (by decide) (by decide)).trans (by rw [f80])) (by rw [← eA]; exact hF.1)
      have hL : okL m1 := ML_ok hX.2.2.1.1 hF.1
      have ev : v = v' := LX_pc hX hL (okF_r c1.2).1 hN hN'
      have fr' := hN'.1.1
      have hS : sam mem m' := by
        refine ⟨fun a q1 q2 q3 => ?_, fun a q1 q2 q3 q4 => ?_, fun k q1 q2 q3 q4 => ?_, ?_, ?_⟩
        · rw [fr' a (by omega), hF.2.1.1 a (by omega) (by omega), fr a (by omega)]
        · rw [fr' a (by omega), hF.2.1.1 a (by omega) (by omega), fr a (by omega)]
        · rw [fr' 80 (by decide), hF.2.1.2 k q1 q2 q3, f80]
        · exact okI_fr (fun x q1 q2 => by rw [fr' x (by omega), hF.2.1.1 x (by omega) (by omega), fr x (by omega)]) h.2.2.2.2.2.2.2.2.1
        · exact FRS_cg (fun a q1 q2 => fr' a (by omega)) (by rw [fr' 80 (by decide)]) (by rw [fr' 80 (by decide)]) (by rw [fr' 80 (by decide)]) (by rw [fr' 80 (by decide)]) (FRm_S hF)
      exact ⟨by rw [hr', ev], IV_sam (by omega) hS h⟩
  · refine PR_of (m1 := mem) (v := -102) (zF_imp (s_Cp_pieces mem k f hk hf (IV_okT h) hb h.2.1.1.1) (fun r m z => ?_)) (s_Mo_pieces mem k f hk hf hK hO) (fun r m z => ?_)
    · rcases z with z | z | z
      · exact z.2
      · exact absurd z.1 c1
      · exact absurd z.1 c1
    · have c1' : ¬ ((0 ≤ k ∧ k ≤ 1) ∧ okF f) := fun y => c1 ⟨bit_iff.mpr y.1, y.2⟩
      rcases z with z | z | z
      · exact ⟨z.2.1, by rw [z.2.2]; exact IV_le (by omega) h⟩
      · exact absurd z.1 c1'
      · exact absurd z.1 c1'
theorem lo_cn {x : Int} (e : ∀ a, 3 ≤ a → a ≤ 8 → m a = mem a) (hx : 0 ≤ x ∧ x < mem 3 1) (hn : mem 3 1 ≤ 4) : cnR (roV m x) 0 = cnR (roV mem x) 0 := by
  refine RwE_cn ⟨?_, fun l k q1 q2 _ _ => ?_⟩
  · unfold roV
    rw [if_pos rfl, if_pos rfl, if_pos rfl, if_pos rfl, e 3 (by decide) (by decide)]
  · have q3 : l < mem 3 1 - 1 := by
      unfold roV at q2
      rw [if_pos rfl, if_pos rfl, e 3 (by decide) (by decide)] at q2
      exact q2
    unfold roV
    by_cases q4 : 0 + 2 + l < 2 + x
    · rw [if_neg (by omega), if_pos q4, if_neg (by omega), if_pos q4, e (3 + (0 + 2 + l)) (by omega) (by omega)]
    · rw [if_neg (by omega), if_neg q4, if_neg (by omega), if_neg q4, e (3 + (0 + 2 + l) + 1) (by omega) (by omega)]
theorem pr_loose (h : IV n mem) : PR m_Cp_loose m_Mo_loose [] 0 n mem := by
  have eN : mem 80 2 = mem 3 1 := h.2.1.2.2.1.1
  have hK := h.2.1.2.1
  have n4 := h.2.1.1.1
  refine zF_imp (s_Cp_loose mem h.2.1.1 h.2.2.2.2.2.2.2.2.1) (fun r m z => ?_)
  have hm : (∀ x, ¬ ((15 ≤ x ∧ x < 21) ∨ (52 ≤ x ∧ x < 73)) → m x = mem x) ∧ okI m 52 := by
    rcases z with z | z | z
    · rw [z.2.2]; exact ⟨fun _ _ => rfl, h.2.2.2.2.2.2.2.2.1⟩
    · rw [z.2.2]; exact ⟨fun _ _ => rfl, h.2.2.2.2.2.2.2.2.1⟩
    · exact z.2.1
  obtain ⟨fr, h52⟩ := hm
  have f80 := fr 80 (by decide)
  have hK1 : moK m := moK_cg (by rw [f80]) (fr 82 (by decide)) (fr 83 (by decide)) (fr 84 (by decide)) hK
  have hc1 : curE m 3 m := by
    have hc := IV_cur h
    refine ⟨by rw [f80, fr 3 (by decide)]; exact hc.1, fun k q1 q2 => ?_⟩
    rw [fr 3 (by decide)] at q2
    unfold rq
    rw [fr 82 (by decide), fr 83 (by decide), fr 84 (by decide), fr (3 + 2 + k) (by omega)]
    exact hc.2 k q1 q2
  have hM := s_Mo_loose m hK1 (fun c => cnR (roV mem c) 0) (fun k m2 q1 q2 q3 q4 => by
    rw [lo_cv hK1 hc1 ⟨q1, q2⟩ q3 q4]
    rw [f80, eN] at q2
    exact lo_cn (fun a y1 y2 => fr a (by omega)) ⟨q1, q2⟩ n4.2)
  rw [f80] at hM
  have ef : ∀ m1 m', frL m m1 → m' = zup m1 80 9 1 → IV (n + 1) m' := by
    intro m1 m' q1 q2
    rw [q2]
    refine IV_sam (by omega) ⟨fun a y1 y2 y3 => ?_, fun a y1 y2 y3 y4 => ?_, fun k y1 y2 y3 y4 => ?_, ?_, ?_⟩ h
    · rw [zup_a (by omega), q1.1 a (by omega) (by omega), fr a (by omega)]
    · rw [zup_a (by omega), q1.1 a (by omega) (by omega), fr a (by omega)]
    · rw [zup_k y1, q1.2 k y2 y3, f80]
    · exact okI_fr (fun x y1 y2 => by rw [zup_a (by omega), q1.1 x (by omega) (by omega)]) h52
    · exact ⟨Or.inr zup_s, fun y => by rw [zup_s] at y; exact absurd y (by decide)⟩
  rcases z with z | z | z
  · refine ⟨_, z.2.1, zF_imp hM (fun r' m' y => ?_)⟩
    rcases y with y | y | y
    · refine ⟨y.2.1, ?_⟩
      rw [y.2.2, z.2.2]
      exact IV_le (by omega) h
    · omega
    · omega
  · refine ⟨_, z.2.1, zF_imp hM (fun r' m' y => ?_)⟩
    rcases y with y | y | y
    · omega
    · exact ⟨y.2.1, ef m m' ⟨fun _ _ _ => rfl, fun _ _ _ => rfl⟩ y.2.2⟩
    · omega
  · refine ⟨_, z.2.2, zF_imp hM (fun r' m' y => ?_)⟩
    rcases y with y | y | y
    · omega
    · omega
    · obtain ⟨_, y1, m1, y2, y3⟩ := y
      refine ⟨?_, ef m1 m' y2 y3⟩
      rw [y1, lo_eq hK (IV_cur h) (by omega)]
end zPQ
