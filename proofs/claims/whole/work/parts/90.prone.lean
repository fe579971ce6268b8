/-! pairs of calls: pages, sights, throws, and what only asks -/
section zPO
variable {m m' mem : zMem} {n : Int}
theorem zup_v {a k v j : Int} : zup mem a k v a j = if j = k then v else mem a j := by
  by_cases e : j = k
  · rw [if_pos e, e]; exact zup_s
  · rw [if_neg e]; exact zup_k e
theorem PR_of {mc mm : zMT} {args : List zAV} {t : Nat} {v : Int} {m1 : zMem} {Q2 : zQ2} (h1 : zF mc ((2, 0) :: args) mem (fun r m => r = some (t, v) ∧ m = m1)) (h2 : zF mm ((2, 80) :: args) m1 Q2) (h3 : ∀ r m, Q2 r m → r = some (t, v) ∧ IV (n + 1) m) : PR mc mm args t n mem := by
  refine zF_imp h1 (fun r m h => ⟨v, h.1, ?_⟩)
  rw [h.2]
  exact zF_imp h2 h3
theorem FRS_cg (h : ∀ a, 82 ≤ a → a ≤ 91 → m' a = m a) (h2 : m' 80 2 = m 80 2) (h9 : m' 80 9 = m 80 9) (h3 : m' 80 14 = m 80 14) (h4 : m' 80 15 = m 80 15) (hO : FRS m) : FRS m' := by
  refine ⟨by rw [h9]; exact hO.1, fun q q2 => ?_⟩
  rw [lpA_cg (h 82 (by decide) (by decide)) (h 83 (by decide) (by decide)) (h 84 (by decide) (by decide)) h2]
  exact ML_cg h h2 h3 h4 (hO.2 (by rw [← h9]; exact q) (by rw [← h2]; exact q2))
theorem IV_p (hA : ∀ a, a ≠ 80 → a ≠ 1 → a ≠ 2 → a ≠ 81 → m' a = m a) (hF : ∀ k, k ≠ 1 → m' 80 k = m 80 k) (hP : IVp m') (h : IV n m) : IV (n + 1) m' := by
  obtain ⟨a, b, c, d, e, f, g, t⟩ := h
  have s1 : ∀ a, a < 80 → 3 ≤ a → m' a = m a := fun x q1 q2 => hA x (by omega) (by omega) (by omega) (by omega)
  have s0 := hA 0 (by decide) (by decide) (by decide) (by decide)
  have s2 : ∀ a, 82 ≤ a → m' a = m a := fun x q1 => hA x (by omega) (by omega) (by omega) (by omega)
  exact ⟨hP, IVr_cg (fun x q1 q2 => s1 x (by omega) (by omega)) (fun x q1 q2 => s2 x q1) (hF 2 (by decide)) b, IVs_cg (fun x q1 q2 => s1 x (by omega) (by omega)) (s2 94 (by decide)) (hF 22 (by decide)) c, IVk_cg (by rw [s0]) (fun x q1 q2 => s1 x (by omega) (by omega)) (fun x q1 q2 => s1 x (by omega) (by omega)) (fun x q1 q2 => s2 x (by omega)) (hF 3 (by decide)) (hF 25 (by decide)) (hF 26 (by decide)) (hF 27 (by decide)) d, IVd_cg (s1 77 (by decide) (by decide)) (hF 24 (by decide)) e, IVg_cg (s1 78 (by decide) (by decide)) (s1 79 (by decide) (by decide)) (hF 20 (by decide)) (s2 92 (by decide)) f, IVn_cg (by omega) (by rw [s0]) (by rw [s0]) (by rw [s0]) (hF 3 (by decide)) (hF 18 (by decide)) (hF 4 (by decide)) g, IVt_cg (fun x q1 q2 => s1 x (by omega) (by omega)) (fun x q1 q2 => s1 x (by omega) (by omega)) (okI_fr (fun x q1 q2 => s1 x (by omega) (by omega)) t.2.1) (FRS_cg (fun x q1 q2 => s2 x q1) (hF 2 (by decide)) (hF 9 (by decide)) (hF 14 (by decide)) (hF 15 (by decide)) t.2.2.1) t⟩
theorem IV_s (hA : ∀ a, a ≠ 80 → ¬ (21 ≤ a ∧ a ≤ 25) → a ≠ 94 → m' a = m a) (hF : ∀ k, k ≠ 22 → m' 80 k = m 80 k) (hP : IVs m') (h : IV n m) : IV (n + 1) m' := by
  obtain ⟨a, b, c, d, e, f, g, t⟩ := h
  have s1 : ∀ a, a < 80 → ¬ (21 ≤ a ∧ a ≤ 25) → m' a = m a := fun x q1 q2 => hA x (by omega) q2 (by omega)
  have s0 := s1 0 (by decide) (by decide)
  have s2 : ∀ a, 81 ≤ a → a ≠ 94 → m' a = m a := fun x q1 q2 => hA x (by omega) (by omega) q2
  exact ⟨IVp_cg (s1 1 (by decide) (by decide)) (s1 2 (by decide) (by decide)) (hF 1 (by decide)) (s2 81 (by decide) (by decide)) a, IVr_cg (fun x q1 q2 => s1 x (by omega) (by omega)) (fun x q1 q2 => s2 x (by omega) (by omega)) (hF 2 (by decide)) b, hP, IVk_cg (by rw [s0]) (fun x q1 q2 => s1 x (by omega) (by omega)) (fun x q1 q2 => s1 x (by omega) (by omega)) (fun x q1 q2 => s2 x (by omega) (by omega)) (hF 3 (by decide)) (hF 25 (by decide)) (hF 26 (by decide)) (hF 27 (by decide)) d, IVd_cg (s1 77 (by decide) (by decide)) (hF 24 (by decide)) e, IVg_cg (s1 78 (by decide) (by decide)) (s1 79 (by decide) (by decide)) (hF 20 (by decide)) (s2 92 (by decide) (by decide)) f, IVn_cg (by omega) (by rw [s0]) (by rw [s0]) (by rw [s0]) (hF 3 (by decide)) (hF 18 (by decide)) (hF 4 (by decide)) g, IVt_cg (fun x q1 q2 => s1 x (by omega) (by omega)) (fun x q1 q2 => s1 x (by omega) (by omega)) (okI_fr (fun x q1 q2 => s1 x (by omega) (by omega)) t.2.1) (FRS_cg (fun x q1 q2 => s2 x (by omega) (by omega)) (hF 2 (by decide)) (hF 9 (by decide)) (hF 14 (by decide)) (hF 15 (by decide)) t.2.2.1) t⟩
theorem IV_d (hA : ∀ a, a ≠ 80 → a ≠ 77 → m' a = m a) (hF : ∀ k, k ≠ 24 → m' 80 k = m 80 k) (hP : IVd m') (h : IV n m) : IV (n + 1) m' := by
  obtain ⟨a, b, c, d, e, f, g, t⟩ := h
  have s0 := hA 0 (by decide) (by decide)
  exact ⟨IVp_cg (hA 1 (by decide) (by decide)) (hA 2 (by decide) (by decide)) (hF 1 (by decide)) (hA 81 (by decide) (by decide)) a, IVr_cg (fun x q1 q2 => hA x (by omega) (by omega)) (fun x q1 q2 => hA x (by omega) (by omega)) (hF 2 (by decide)) b, IVs_cg (fun x q1 q2 => hA x (by omega) (by omega)) (hA 94 (by decide) (by decide)) (hF 22 (by decide)) c, IVk_cg (by rw [s0]) (fun x q1 q2 => hA x (by omega) (by omega)) (fun x q1 q2 => hA x (by omega) (by omega)) (fun x q1 q2 => hA x (by omega) (by omega)) (hF 3 (by decide)) (hF 25 (by decide)) (hF 26 (by decide)) (hF 27 (by decide)) d, hP, IVg_cg (hA 78 (by decide) (by decide)) (hA 79 (by decide) (by decide)) (hF 20 (by decide)) (hA 92 (by decide) (by decide)) f, IVn_cg (by omega) (by rw [s0]) (by rw [s0]) (by rw [s0]) (hF 3 (by decide)) (hF 18 (by decide)) (hF 4 (by decide)) g, IVt_cg (fun x q1 q2 => hA x (by omega) (by omega)) (fun x q1 q2 => hA x (by omega) (by omega)) (okI_fr (fun x q1 q2 => hA x (by omega) (by omega)) t.2.1) (FRS_cg (fun x q1 q2 => hA x (by omega) (by omega)) (hF 2 (by decide)) (hF 9 (by decide)) (hF 14 (by decide)) (hF 15 (by decide)) t.2.2.1) t⟩
theorem pr_letter {c : Int} (hc : I32 c) (h : IV n mem) : PR m_Cp_letter m_Mo_letter [(0, c)] 0 n mem := by
  have hp := h.1
  by_cases c1 : 1 ≤ c ∧ c ≤ 126
  · by_cases c2 : mem 1 1 < 24
    · refine PR_of (m1 := zup (zup mem 2 (mem 1 1) c) 1 1 (mem 1 1 + 1)) (zF_imp (s_Cp_letter mem c hc hp.1) (fun r m z => ⟨z.1, ?_⟩)) (s_Mo_letter _ c hc (by rw [zup_c (by decide), zup_c (by decide), hp.2.1]; exact hp.1)) (fun r m z => ?_)
      · rw [z.2, cif_t c1]
        unfold apP
        rw [cif_t c2]
      · have e80 : zup (zup mem 2 (mem 1 1) c) 1 1 (mem 1 1 + 1) 80 1 = mem 1 1 := by rw [zup_c (by decide), zup_c (by decide)]; exact hp.2.1
        rw [e80] at z
        rw [cif_t ⟨c1, c2⟩] at z
        refine ⟨z.1, ?_⟩
        rw [z.2]
        refine IV_p (fun a q1 q2 q3 q4 => by rw [zup_a q1, zup_a q4, zup_a q2, zup_a q3]) (fun k q => by rw [zup_k q, zup_c (by decide), zup_c (by decide), zup_c (by decide)]) ?_ h
        have hp1 := hp.1
        have d1 : zup (zup (zup (zup mem 2 (mem 1 1) c) 1 1 (mem 1 1 + 1)) 81 (mem 1 1) c) 80 1 (mem 1 1 + 1) 1 1 = mem 1 1 + 1 := by rw [zup_c (by decide), zup_c (by decide), zup_s]
        have d2 : ∀ i, zup (zup (zup (zup mem 2 (mem 1 1) c) 1 1 (mem 1 1 + 1)) 81 (mem 1 1) c) 80 1 (mem 1 1 + 1) 2 i = if i = mem 1 1 then c else mem 2 i := fun i => by rw [zup_c (by decide), zup_c (by decide), zup_c (by decide), zup_v]
        have d3 : ∀ i, zup (zup (zup (zup mem 2 (mem 1 1) c) 1 1 (mem 1 1 + 1)) 81 (mem 1 1) c) 80 1 (mem 1 1 + 1) 81 i = if i = mem 1 1 then c else mem 81 i := fun i => by rw [zup_c (by decide), zup_v, zup_c (by decide), zup_c (by decide)]
        refine ⟨by rw [d1]; omega, by rw [d1, zup_s], fun i q1 q2 => ?_⟩
        rw [d1] at q2
        rw [d2, d3]
        by_cases e : i = mem 1 1
        · rw [if_pos e, if_pos e]
          exact ⟨by omega, rfl⟩
        · rw [if_neg e, if_neg e]
          exact hp.2.2 i q1 (by omega)
    · refine PR_of (m1 := mem) (zF_imp (s_Cp_letter mem c hc hp.1) (fun r m z => ⟨z.1, ?_⟩)) (s_Mo_letter _ c hc (by rw [hp.2.1]; exact hp.1)) (fun r m z => ?_)
      · rw [z.2, cif_t c1]
        unfold apP
        rw [cif_f c2]
      · rw [hp.2.1] at z
        rw [cif_f (fun y => c2 y.2)] at z
        exact ⟨z.1, by rw [z.2]; exact IV_le (by omega) h⟩
  · refine PR_of (m1 := mem) (zF_imp (s_Cp_letter mem c hc hp.1) (fun r m z => ⟨z.1, ?_⟩)) (s_Mo_letter _ c hc (by rw [hp.2.1]; exact hp.1)) (fun r m z => ?_)
    · rw [z.2, cif_f c1]
    · rw [hp.2.1] at z
      rw [cif_f (fun y => c1 y.1)] at z
      exact ⟨z.1, by rw [z.2]; exact IV_le (by omega) h⟩
theorem pr_blank (h : IV n mem) : PR m_Cp_blank m_Mo_blank [] 0 n mem := by
  have hp := h.1
  refine PR_of (s_Cp_blank mem) (s_Mo_blank _) (fun r m z => ⟨by rw [z.1, zup_c (by decide), hp.2.1], ?_⟩)
  rw [z.2]
  refine IV_p (fun a q1 q2 q3 q4 => by rw [zup_a q1, zup_a q2]) (fun k q => by rw [zup_k q, zup_c (by decide)]) ⟨?_, ?_, fun i q1 q2 => ?_⟩ h
  · rw [zup_c (by decide), zup_s]; decide
  · rw [zup_s, zup_c (by decide), zup_s]
  · rw [zup_c (by decide), zup_s] at q2
    omega
theorem ff_eq (hp : IVp m) : ffI (m 81) (m 80 1) = ffI (m 2) (m 1 1) := by
  unfold ffI
  rw [hp.2.1]
  have h0 := hp.1
  refine zff_cong _ 0 (fun j q1 q2 => ?_)
  have e := (hp.2.2 j q1 (by omega)).2
  unfold fitsP
  rw [e]
theorem pr_fault (h : IV n mem) : PR m_Cp_fault m_Mo_fault [] 0 n mem := by
  have hp := h.1
  refine PR_of (s_Cp_fault mem hp.1 (fun i q1 q2 => (hp.2.2 i q1 q2).1)) (s_Mo_fault mem (by rw [hp.2.1]; exact hp.1) (fun i q1 q2 => by rw [hp.2.1] at q2; rw [(hp.2.2 i q1 q2).2]; exact (hp.2.2 i q1 q2).1)) (fun r m z => ⟨by rw [z.1, ff_eq hp], by rw [z.2]; exact IV_le (by omega) h⟩)
theorem IV_SM (h : IVs m) : okSM m := by
  obtain ⟨a, b⟩ := h
  refine ⟨by rw [b.1]; exact a.1, fun j q1 q2 => ?_⟩
  rw [b.1] at q2
  obtain ⟨e1, e2, e3, e4⟩ := b.2 j q1 q2
  rw [e1, e2, e3, e4]
  exact a.2 j q1 q2
theorem cu_eq {i w : Int} (hr : IVr m) (hs : IVs m) (hi : 0 ≤ i ∧ i < m 3 1) : cuM m i w = cuX m i w := by
  obtain ⟨e1, e2, e3, e4⟩ := hr.2.2.1.2 i hi.1 hi.2
  have e2 : m 83 i = m (3 + 2 + i) 1 := e2
  have e3 : m 84 i = m (3 + 2 + i) 2 := e3
  have e4 : m 85 i = m (3 + 2 + i) 3 := e4
  have ec : (fun kd => cbM m i kd) = fun k => cbX m 21 i k (m (3 + 2 + i) 1) (m (3 + 2 + i) 2) := by
    funext k
    unfold cbM cbX cbQ
    rw [e2, e3, hs.2.1]
    refine propext ⟨fun z j q1 q2 q3 => ?_, fun z j q1 q2 q3 => ?_⟩
    · obtain ⟨f1, f2, f3, f4⟩ := hs.2.2 j q1 q2
      have y := z j q1 q2 (by rw [f1]; exact q3)
      rw [f2, f3, f4] at y
      exact y
    · obtain ⟨f1, f2, f3, f4⟩ := hs.2.2 j q1 q2
      rw [f2, f3, f4]
      exact z j q1 q2 (by rw [← f1]; exact q3)
  unfold cuM cuX
  rw [ec, e1, e2, e3, e4, Int.add_comm 9 (m (3 + 2 + i) 1), Int.add_comm 9 (m (3 + 2 + i) 2)]
theorem pr_curve {i w : Int} (hi : I32 i) (hw : I32 w) (h : IV n mem) : PR m_Cp_curve m_Mo_curve [(0, i), (0, w)] 0 n mem := by
  refine PR_of (s_Cp_curve mem i w hi hw h.2.1.1 h.2.2.1.1) (s_Mo_curve mem i w hi hw h.2.1.2.1 (IV_SM h.2.2.1)) (fun r m z => ⟨?_, by rw [z.2]; exact IV_le (by omega) h⟩)
  rw [z.1, h.2.1.2.2.1.1]
  by_cases c : 0 ≤ i ∧ i < mem 3 1
  · rw [if_pos c, if_pos c, cu_eq h.2.1 h.2.2.1 c]
  · rw [if_neg c, if_neg c]
theorem pr_as {i k : Int} (hi : I32 i) (hk : I32 k) (h : IV n mem) : PR m_Cp_as m_Mo_as [(0, i), (0, k)] 0 n mem := by
  refine PR_of (s_Cp_as mem i k hi hk h.2.1.1) (s_Mo_as mem i k hi hk h.2.1.2.1) (fun r m z => ⟨?_, by rw [z.2]; exact IV_le (by omega) h⟩)
  rw [z.1, h.2.1.2.2.1.1]
  by_cases c : 0 ≤ i ∧ i < mem 3 1
  · rw [if_pos c, if_pos c, (h.2.1.2.2.1.2 i c.1 c.2).1]
  · rw [if_neg c, if_neg c]
theorem pr_forget (h : IV n mem) : PR m_Cp_forget m_Mo_forget [] 0 n mem := by
  refine PR_of (s_Cp_forget mem) (s_Mo_forget _) (fun r m z => ⟨by rw [z.1, zup_c (by decide), h.2.2.1.2.1], ?_⟩)
  rw [z.2]
  refine IV_s (fun a q1 q2 q3 => by rw [zup_a q1, zup_a (by omega)]) (fun k q => by rw [zup_k q, zup_c (by decide)]) ⟨⟨?_, fun i q1 q2 => ?_⟩, ?_, fun i q1 q2 => ?_⟩ h
  · rw [zup_c (by decide), zup_s]; decide
  · rw [zup_c (by decide), zup_s] at q2
    omega
  · rw [zup_s, zup_c (by decide), zup_s]
  · rw [zup_c (by decide), zup_s] at q2
    omega
theorem pr_dice {v : Int} (hv : I32 v) (h : IV n mem) : PR m_Cp_dice m_Mo_dice [(0, v)] 0 n mem := by
  obtain ⟨d1, d2⟩ := h.2.2.2.2.1
  by_cases c : 1 ≤ v ∧ v ≤ 1000
  · refine PR_of (zF_imp (s_Cp_dice mem v hv d2) (fun r m z => ?_)) (s_Mo_dice (zup mem 77 0 ((1103515245 * mem 77 0 + 12345) % 2147483648)) v hv (by rw [zup_c (by decide), d1]; exact d2)) (fun r m z => ?_) (v := (1103515245 * mem 77 0 + 12345) % 2147483648 / 65536 % v)
    · rcases z with z | z
      · exact z.2
      · exact absurd c z.1
    · rcases z with z | z
      · rw [zup_c (by decide), d1] at z
        refine ⟨z.2.1, ?_⟩
        rw [z.2.2]
        refine IV_d (fun a q1 q2 => by rw [zup_a q1, zup_a q2]) (fun k q => by rw [zup_k q, zup_c (by decide)]) ⟨?_, ?_⟩ h
        · rw [zup_s, zup_c (by decide), zup_s]
        · rw [zup_c (by decide), zup_s]
          omega
      · exact absurd c z.1
  · refine PR_of (zF_imp (s_Cp_dice mem v hv d2) (fun r m z => ?_)) (s_Mo_dice mem v hv (by rw [d1]; exact d2)) (fun r m z => ?_) (v := -102)
    · rcases z with z | z
      · exact absurd z.1 c
      · exact z.2
    · rcases z with z | z
      · exact absurd z.1 c
      · exact ⟨z.2.1, by rw [z.2.2]; exact IV_le (by omega) h⟩
theorem pr_latest {v : Int} (hv : I32 v) (h : IV n mem) : PR m_Cp_latest m_Mo_latest [(0, v)] 0 n mem := by
  obtain ⟨g1, g2, g3, g4, g5, g6⟩ := h.2.2.2.2.2.1
  refine PR_of (s_Cp_latest mem v hv g1 g2) (s_Mo_latest mem v hv (by rw [g3]; exact g2)) (fun r m z => ⟨?_, by rw [z.2]; exact IV_le (by omega) h⟩)
  rw [z.1, g3]
  by_cases c : 0 ≤ v ∧ v < mem 78 2
  · rw [if_pos c, if_pos c, g6 v c.1 c.2]
  · rw [if_neg c, if_neg c]
theorem pr_see {i x y w : Int} (hi : I32 i) (hx : I32 x) (hy : I32 y) (hw : I32 w) (h : IV n mem) : PR m_Cp_see m_Mo_see [(0, i), (0, x), (0, y), (0, w)] 0 n mem := by
  have hr := h.2.1
  obtain ⟨s1, s2⟩ := h.2.2.1
  have eN : mem 80 2 = mem 3 1 := hr.2.2.1.1
  have eS : mem 80 22 = mem 21 4 := s2.1
  by_cases c : (0 ≤ i ∧ i < mem 3 1) ∧ (-9 ≤ x ∧ x ≤ 9) ∧ (-9 ≤ y ∧ y ≤ 9) ∧ 0 ≤ w ∧ w ≤ 2
  · by_cases c2 : mem 21 4 < 6
    · have f8 : ∀ k, apS mem 21 i x y w 80 k = mem 80 k := fun k => by
        unfold apS
        rw [zup_c (by decide), zup_c (by decide), zup_c (by decide), zup_c (by decide), zup_c (by decide)]
      have fA : ∀ a, ¬ (21 ≤ a ∧ a ≤ 25) → apS mem 21 i x y w a = mem a := fun a q => by
        unfold apS
        rw [zup_a (by omega), zup_a (by omega), zup_a (by omega), zup_a (by omega), zup_a (by omega)]
      refine PR_of (m1 := apS mem 21 i x y w) (zF_imp (s_Cp_see mem i x y w hi hx hy hw hr.1.1 s1.1) (fun r m z => ⟨z.1, ?_⟩)) (s_Mo_see _ i x y w hi hx hy hw ?_ (by rw [f8, eS]; exact s1.1)) (fun r m z => ?_)
      · rw [z.2, cif_t c]
        unfold apS2
        rw [cif_t c2]
      · unfold moK
        rw [f8, fA 82 (by decide), fA 83 (by decide), fA 84 (by decide)]
        exact hr.2.1
      · simp only [f8] at z
        rw [eN, eS, cif_t ⟨c, c2⟩] at z
        refine ⟨z.1, ?_⟩
        rw [z.2]
        unfold seA2
        rw [f8, eS]
        have g4 : zup (zup (zup (zup (zup (apS mem 21 i x y w) 94 (4 * mem 21 4) i) 94 (4 * mem 21 4 + 1) x) 94 (4 * mem 21 4 + 2) y) 94 (4 * mem 21 4 + 3) w) 80 22 (mem 21 4 + 1) 21 4 = mem 21 4 + 1 := by
          rw [zup_c (by decide), zup_c (by decide), zup_c (by decide), zup_c (by decide), zup_c (by decide)]
          unfold apS
          rw [zup_s]
        have gC : ∀ a, 22 ≤ a → a ≤ 25 → zup (zup (zup (zup (zup (apS mem 21 i x y w) 94 (4 * mem 21 4) i) 94 (4 * mem 21 4 + 1) x) 94 (4 * mem 21 4 + 2) y) 94 (4 * mem 21 4 + 3) w) 80 22 (mem 21 4 + 1) a = apS mem 21 i x y w a := fun a q1 q2 => by
          rw [zup_a (by omega), zup_a (by omega), zup_a (by omega), zup_a (by omega), zup_a (by omega)]
        have v1 : ∀ j, apS mem 21 i x y w 22 j = if j = mem 21 4 then i else mem 22 j := fun j => by
          unfold apS
          rw [zup_c (by decide), zup_c (by decide), zup_c (by decide), zup_c (by decide)]
          by_cases e : j = mem 21 4
          · rw [if_pos e, e]; exact zup_s
          · rw [if_neg e]; exact zup_k e
        have v2 : ∀ j, apS mem 21 i x y w 23 j = if j = mem 21 4 then x else mem 23 j := fun j => by
          unfold apS
          rw [zup_c (by decide), zup_c (by decide), zup_c (by decide)]
          by_cases e : j = mem 21 4
          · rw [if_pos e, e]; exact zup_s
          · rw [if_neg e, show (21 + 2 : Int) = 23 by decide, zup_k e, zup_c (by decide)]
        have v3 : ∀ j, apS mem 21 i x y w 24 j = if j = mem 21 4 then y else mem 24 j := fun j => by
          unfold apS
          rw [zup_c (by decide), zup_c (by decide)]
          by_cases e : j = mem 21 4
          · rw [if_pos e, e]; exact zup_s
          · rw [if_neg e, show (21 + 3 : Int) = 24 by decide, zup_k e, zup_c (by decide), zup_c (by decide)]
        have v4 : ∀ j, apS mem 21 i x y w 25 j = if j = mem 21 4 then w else mem 25 j := fun j => by
          unfold apS
          rw [zup_c (by decide)]
          by_cases e : j = mem 21 4
          · rw [if_pos e, e]; exact zup_s
          · rw [if_neg e, show (21 + 4 : Int) = 25 by decide, zup_k e, zup_c (by decide), zup_c (by decide), zup_c (by decide)]
        have hn4 := hr.1.1
        have hs4 := s1.1
        refine IV_s (fun a q1 q2 q3 => by rw [zup_a q1, zup_a q3, zup_a q3, zup_a q3, zup_a q3, fA a q2]) (fun k q => by rw [zup_k q, zup_c (by decide), zup_c (by decide), zup_c (by decide), zup_c (by decide), f8]) ⟨⟨by rw [g4]; omega, fun j q1 q2 => ?_⟩, by rw [g4, zup_s], fun j q1 q2 => ?_⟩ h
        · rw [g4] at q2
          show (0 ≤ zup _ 80 22 _ 22 j ∧ zup _ 80 22 _ 22 j ≤ 3) ∧ (-9 ≤ zup _ 80 22 _ 23 j ∧ zup _ 80 22 _ 23 j ≤ 9) ∧ (-9 ≤ zup _ 80 22 _ 24 j ∧ zup _ 80 22 _ 24 j ≤ 9) ∧ (0 ≤ zup _ 80 22 _ 25 j ∧ zup _ 80 22 _ 25 j ≤ 2)
          rw [gC 22 (by decide) (by decide), gC 23 (by decide) (by decide), gC 24 (by decide) (by decide), gC 25 (by decide) (by decide), v1, v2, v3, v4]
          by_cases e : j = mem 21 4
          · rw [if_pos e, if_pos e, if_pos e, if_pos e]
            omega
          · rw [if_neg e, if_neg e, if_neg e, if_neg e]
            exact s1.2 j q1 (by omega)
        · rw [g4] at q2
          show zup _ 80 22 _ 94 (4 * j) = zup _ 80 22 _ 22 j ∧ zup _ 80 22 _ 94 (4 * j + 1) = zup _ 80 22 _ 23 j ∧ zup _ 80 22 _ 94 (4 * j + 2) = zup _ 80 22 _ 24 j ∧ zup _ 80 22 _ 94 (4 * j + 3) = zup _ 80 22 _ 25 j
          rw [gC 22 (by decide) (by decide), gC 23 (by decide) (by decide), gC 24 (by decide) (by decide), gC 25 (by decide) (by decide), v1, v2, v3, v4]
          have w9 : ∀ l, zup (zup (zup (zup (zup (apS mem 21 i x y w) 94 (4 * mem 21 4) i) 94 (4 * mem 21 4 + 1) x) 94 (4 * mem 21 4 + 2) y) 94 (4 * mem 21 4 + 3) w) 80 22 (mem 21 4 + 1) 94 l = if l = 4 * mem 21 4 + 3 then w else if l = 4 * mem 21 4 + 2 then y else if l = 4 * mem 21 4 + 1 then x else if l = 4 * mem 21 4 then i else mem 94 l := fun l => by
            rw [zup_c (by decide), zup_v, zup_v, zup_v, zup_v, fA 94 (by decide)]
          rw [w9, w9, w9, w9]
          by_cases e : j = mem 21 4
          · rw [if_pos e, if_pos e, if_pos e, if_pos e, e]
            refine ⟨?_, ?_, ?_, ?_⟩
            · rw [if_neg (by omega), if_neg (by omega), if_neg (by omega), if_pos rfl]
            · rw [if_neg (by omega), if_neg (by omega), if_pos rfl]
            · rw [if_neg (by omega), if_pos rfl]
            · rw [if_pos rfl]
          · have y := s2.2 j q1 (by omega)
            refine ⟨?_, ?_, ?_, ?_⟩
            · rw [if_neg (by omega), if_neg (by omega), if_neg (by omega), if_neg (by omega), if_neg e]; exact y.1
            · rw [if_neg (by omega), if_neg (by omega), if_neg (by omega), if_neg (by omega), if_neg e]; exact y.2.1
            · rw [if_neg (by omega), if_neg (by omega), if_neg (by omega), if_neg (by omega), if_neg e]; exact y.2.2.1
            · rw [if_neg (by omega), if_neg (by omega), if_neg (by omega), if_neg (by omega), if_neg e]; exact y.2.2.2
    · refine PR_of (m1 := mem) (zF_imp (s_Cp_see mem i x y w hi hx hy hw hr.1.1 s1.1) (fun r m z => ⟨z.1, ?_⟩)) (s_Mo_see _ i x y w hi hx hy hw hr.2.1 (by rw [eS]; exact s1.1)) (fun r m z => ?_)
      · rw [z.2, cif_t c]
        unfold apS2
        rw [cif_f c2]
      · rw [eN, eS, cif_f (fun y => c2 y.2)] at z
        exact ⟨z.1, by rw [z.2]; exact IV_le (by omega) h⟩
  · refine PR_of (m1 := mem) (zF_imp (s_Cp_see mem i x y w hi hx hy hw hr.1.1 s1.1) (fun r m z => ⟨z.1, ?_⟩)) (s_Mo_see _ i x y w hi hx hy hw hr.2.1 (by rw [eS]; exact s1.1)) (fun r m z => ?_)
    · rw [z.2, cif_f c]
    · rw [eN, eS, cif_f (fun y => c y.1)] at z
      exact ⟨z.1, by rw [z.2]; exact IV_le (by omega) h⟩
end zPO
