/-! pairs of calls: sentences, digests -/
section zPS
variable {m m' mem : zMem} {n : Int}
theorem IV_g (hA : ∀ a, a ≠ 0 → a ≠ 80 → a ≠ 73 → a ≠ 74 → a ≠ 78 → a ≠ 79 → a ≠ 92 → ¬ (86 ≤ a ∧ a ≤ 91) → m' a = m a) (h0 : ∀ k, k ≠ 14 → m' 0 k = m 0 k) (hF : ∀ k, k ≠ 9 → k ≠ 14 → k ≠ 15 → k ≠ 18 → k ≠ 20 → m' 80 k = m 80 k) (hg : IVg m') (hO : FRS m') (h14 : m' 0 14 = m 0 14 + 1) (h18 : m' 80 18 = m 80 18 + 1) (h : IV n m) : IV (n + 1) m' := by
  obtain ⟨a, b, c, d, e, f, g, t⟩ := h
  have s1 : ∀ a, 1 ≤ a → a < 73 → m' a = m a := fun x q1 q2 => hA x (by omega) (by omega) (by omega) (by omega) (by omega) (by omega) (by omega) (by omega)
  have s2 : ∀ a, 81 ≤ a → ¬ (86 ≤ a ∧ a ≤ 92) → m' a = m a := fun x q1 q2 => hA x (by omega) (by omega) (by omega) (by omega) (by omega) (by omega) (by omega) (by omega)
  have s3 : ∀ k, k ≠ 9 → k ≠ 14 → k ≠ 15 → k ≠ 18 → k ≠ 20 → m' 80 k = m 80 k := hF
  refine ⟨IVp_cg (s1 1 (by decide) (by decide)) (s1 2 (by decide) (by decide)) (s3 1 (by decide) (by decide) (by decide) (by decide) (by decide)) (s2 81 (by decide) (by decide)) a, IVr_cg (fun x q1 q2 => s1 x (by omega) (by omega)) (fun x q1 q2 => s2 x (by omega) (by omega)) (s3 2 (by decide) (by decide) (by decide) (by decide) (by decide)) b, IVs_cg (fun x q1 q2 => s1 x (by omega) (by omega)) (s2 94 (by decide) (by decide)) (s3 22 (by decide) (by decide) (by decide) (by decide) (by decide)) c, IVk_cg (h0 12 (by decide)) (fun x q1 q2 => s1 x (by omega) (by omega)) (fun x q1 q2 => s1 x (by omega) (by omega)) (fun x q1 q2 => s2 x (by omega) (by omega)) (s3 3 (by decide) (by decide) (by decide) (by decide) (by decide)) (s3 25 (by decide) (by decide) (by decide) (by decide) (by decide)) (s3 26 (by decide) (by decide) (by decide) (by decide) (by decide)) (s3 27 (by decide) (by decide) (by decide) (by decide) (by decide)) d, IVd_cg (hA 77 (by decide) (by decide) (by decide) (by decide) (by decide) (by decide) (by decide) (by decide)) (s3 24 (by decide) (by decide) (by decide) (by decide) (by decide)) e, hg, ?_, IVt_cg (fun x q1 q2 => s1 x (by omega) (by omega)) (fun x q1 q2 => s1 x (by omega) (by omega)) (okI_fr (fun x q1 q2 => s1 x (by omega) (by omega)) t.2.1) hO t⟩
  obtain ⟨g1, g2, g3, g4, g5, g6⟩ := g
  have e13 := h0 13 (by decide)
  have e15 := h0 15 (by decide)
  have e3 := s3 3 (by decide) (by decide) (by decide) (by decide) (by decide)
  have e4 := s3 4 (by decide) (by decide) (by decide) (by decide) (by decide)
  refine ⟨by omega, by omega, by omega, by omega, by omega, by omega⟩
theorem pr_sentence {p q k f : Int} (hp : I32 p) (hq : I32 q) (hk : I32 k) (hf : I32 f) (h : IV n mem) : PR m_Cp_sentence m_Mo_sentence [(0, p), (0, q), (0, k), (0, f)] 0 n mem := by
  have eN : mem 80 2 = mem 3 1 := h.2.1.2.2.1.1
  have hK := h.2.1.2.1
  have hO := h.2.2.2.2.2.2.2.2.2.1
  obtain ⟨g1, g2, g3, g4, g5, g6⟩ := h.2.2.2.2.2.1
  have hC := s_Cp_sentence mem p q k f hp hq hk hf (IV_okT h) h.2.1.1.1 g1 g2
  have hM0 := s_Mo_sentence mem p q k f hp hq hk hf hK hO (by rw [g3]; exact g2)
  by_cases c1 : (p = 0 ∨ p = 1) ∧ (q = 0 ∨ q = 1) ∧ (k = 0 ∨ k = 1) ∧ okF f
  · have c1' : (0 ≤ p ∧ p ≤ 1) ∧ (0 ≤ q ∧ q ≤ 1) ∧ (0 ≤ k ∧ k ≤ 1) ∧ okF f := ⟨bit_iff.mp c1.1, bit_iff.mp c1.2.1, bit_iff.mp c1.2.2.1, c1.2.2.2⟩
    by_cases c2 : mem 3 1 = 0
    · refine PR_of (m1 := mem) (v := -103) (zF_imp hC (fun r m z => ?_)) hM0 (fun r m z => ?_)
      · rcases z with z | z | z
        · exact absurd c1 z.1
        · exact z.2.2
        · exact absurd c2 z.2.1
      · rcases z with z | z | z
        · exact absurd c1' z.1
        · exact ⟨z.2.2.1, by rw [z.2.2.2]; exact IV_le (by omega) h⟩
        · exact absurd (eN.trans c2) z.2.1
    · refine zF_imp hC (fun r m z => ?_)
      rcases z with z | z | z
      · exact absurd c1 z.1
      · exact absurd z.2.1 c2
      obtain ⟨_, _, hr, hm⟩ := z
      generalize et : zb (soX (rdF mem k f) p q) = t at hr hm
      have ht01 : t = 0 ∨ t = 1 := by rw [← et]; exact zb_01 _
      have r78 : ∀ j, rdF mem k f 78 j = mem 78 j := fun j => by rw [rdF_n (by decide) (by decide)]
      have fr : ∀ a, a ≠ 0 → a ≠ 73 → a ≠ 74 → a ≠ 78 → a ≠ 79 → m a = mem a := fun a q1 q2 q3 q4 q5 => by
        rw [hm]
        unfold riA
        rw [zup_a q1, zup_a q4, zup_a q4, zup_a q5, rdF_n q2 q3]
      have f0 : ∀ j, j ≠ 14 → m 0 j = mem 0 j := fun j q1 => by
        rw [hm]
        unfold riA
        rw [zup_k q1, zup_c (by decide), zup_c (by decide), zup_c (by decide), rdF_n (by decide) (by decide)]
      have f14 : m 0 14 = mem 0 14 + 1 := by rw [hm, zup_s]
      have f781 : m 78 1 = (mem 78 1 + 1) % 8 := by
        rw [hm]
        unfold riA
        rw [zup_c (by decide), zup_k (by decide), zup_s, r78]
      have f782 : m 78 2 = minI (mem 78 2 + 1) 8 := by
        rw [hm]
        unfold riA
        rw [zup_c (by decide), zup_s, r78]
      have f79 : ∀ j, m 79 j = if j = mem 78 1 then t else mem 79 j := fun j => by
        rw [hm]
        unfold riA
        rw [zup_c (by decide), zup_c (by decide), zup_c (by decide), r78, zup_v, rdF_n (by decide) (by decide)]
      have f80 := fr 80 (by decide) (by decide) (by decide) (by decide) (by decide)
      have fm : ∀ a, 81 ≤ a → m a = mem a := fun a q => fr a (by omega) (by omega) (by omega) (by omega) (by omega)
      have hO1 : FRS m := FRS_cg (fun a q1 q2 => fm a (by omega)) (by rw [f80]) (by rw [f80]) (by rw [f80]) (by rw [f80]) hO
      refine ⟨t, hr, zF_imp (s_Mo_sentence m p q k f hp hq hk hf (moK_cg (by rw [f80]) (fm 82 (by decide)) (fm 83 (by decide)) (fm 84 (by decide)) hK) hO1 (by rw [f80, g3]; exact g2)) (fun r' m' z => ?_)⟩
      rcases z with z | z | z
      · exact absurd c1' z.1
      · rw [f80] at z
        exact absurd (eN.symm.trans z.2.1) c2
      obtain ⟨_, _, m1, hF, hr', hG⟩ := z
      have eA : lpA m (-1) = lpA mem (-1) := lpA_cg (fm 82 (by decide)) (fm 83 (by decide)) (fm 84 (by decide)) (by rw [f80]) _
      have hX : LX mem m1 := IV_LX h c2 ((hF.2.1.1 82 (by decide) (by omega)).trans (fm 82 (by decide))) ((hF.2.1.1 83 (by decide) (by omega)).trans (fm 83 (by decide))) ((hF.2.1.1 84 (by decide) (by omega)).trans (fm 84 (by decide))) ((hF.2.1.2 2 (by decide) (by decide) (by decide)).trans (by rw [f80])) (by rw [← eA]; exact hF.1)
      have et2 : zb (seM m1 p q k f) = t := by rw [← et]; exact zb_iff (LX_so hX (okF_r c1.2.2.2).1).symm
      rw [et2] at hr' hG
      obtain ⟨w1, w2, w3, w4, w5, w6⟩ := hG
      have u20 : m1 80 20 = mem 78 2 := by rw [hF.2.1.2 20 (by decide) (by decide) (by decide), f80]; exact g3
      have u92 : m1 92 = mem 92 := (hF.2.1.1 92 (by decide) (by omega)).trans (fm 92 (by decide))
      have v78 : m' 78 = m 78 := (w1 78 (by decide) (by decide)).trans (hF.2.1.1 78 (by decide) (by omega))
      have v79 : m' 79 = m 79 := (w1 79 (by decide) (by decide)).trans (hF.2.1.1 79 (by decide) (by omega))
      have v0 : m' 0 = m 0 := (w1 0 (by decide) (by decide)).trans (hF.2.1.1 0 (by decide) (by omega))
      refine ⟨hr', IV_g (fun a q1 q2 q3 q4 q5 q6 q7 q8 => ?_) (fun j q1 => by rw [v0]; exact f0 j q1) (fun j q1 q2 q3 q4 q5 => ?_) ?_ ?_ (by rw [v0]; exact f14) ?_ h⟩
      · rw [w1 a q2 q7, hF.2.1.1 a q2 (by omega), fr a q1 q3 q4 q5 q6]
      · rw [w6 j q4 q5, hF.2.1.2 j q1 q2 q3, f80]
      · unfold minI at f782
        rw [u20] at w4
        refine ⟨by rw [v78]; omega, by rw [v78, f782]; split <;> omega, ?_, fun i q1 q2 => ?_, fun i q1 q2 => ?_, fun i q1 q2 => ?_⟩
        · rw [v78, f782, w4]
          split <;> split <;> omega
        · rw [v79, f79]
          split
          · omega
          · exact g4 i q1 q2
        · by_cases e : i = 0
          · rw [e, w2]; omega
          · rw [w3 i (by omega) (by omega), u92]
            exact g5 (i - 1) (by omega) (by omega)
        · have q3 : i < mem 78 2 + 1 ∧ i < 8 := by
            rw [v78, f782] at q2
            split at q2 <;> omega
          rw [v78, v79, f79, f781]
          by_cases e : i = 0
          · rw [e, w2, if_pos (by omega)]
          · rw [w3 i (by omega) (by omega), u92, if_neg (by omega), g6 (i - 1) (by omega) (by omega)]
            rw [show (mem 78 1 - 1 - (i - 1)) % 8 = ((mem 78 1 + 1) % 8 - 1 - i) % 8 by omega]
      · exact FRS_cg (fun a q1 q2 => w1 a (by omega) (by omega)) (w6 2 (by decide) (by decide)) (w6 9 (by decide) (by decide)) (w6 14 (by decide) (by decide)) (w6 15 (by decide) (by decide)) (FRm_S hF)
      · rw [w5, hF.2.1.2 18 (by decide) (by decide) (by decide), f80]
  · have c1' : ¬ ((0 ≤ p ∧ p ≤ 1) ∧ (0 ≤ q ∧ q ≤ 1) ∧ (0 ≤ k ∧ k ≤ 1) ∧ okF f) := fun y => c1 ⟨bit_iff.mpr y.1, bit_iff.mpr y.2.1, bit_iff.mpr y.2.2.1, y.2.2.2⟩
    refine PR_of (m1 := mem) (v := -102) (zF_imp hC (fun r m z => ?_)) hM0 (fun r m z => ?_)
    · rcases z with z | z | z
      · exact z.2
      · exact absurd z.1 c1
      · exact absurd z.1 c1
    · rcases z with z | z | z
      · exact ⟨z.2.1, by rw [z.2.2]; exact IV_le (by omega) h⟩
      · exact absurd z.1 c1'
      · exact absurd z.1 c1'
theorem sy_eq {h9 : Int} (hX : LX mem m) : syS m h9 = mxS mem h9 := by
  have z := LX_n hX
  unfold syS mxS
  rw [← z.1]
  refine zfo_cong _ 0 _ (fun s h q1 q2 => ?_)
  have hs : 0 ≤ s ∧ s < mem 31 2 := ⟨q1, by omega⟩
  have e : mem 33 s = 2 * m 91 s := (LX_t hX hs).1
  show syJ m s (31 * h + (2 * m 91 s + 1)) = mxJ mem s (31 * h + (mem 33 s + 1))
  rw [e]
  unfold syJ mxJ
  rw [e]
  refine zfo_cong _ 0 _ (fun j h _ _ => ?_)
  unfold syK mxI
  rw [← z.2.2.2.1]
  refine zfo_cong _ 0 _ (fun c h q3 q4 => ?_)
  show 31 * h + lsM m s j c = 31 * h + sdS mem 31 s j c
  rw [LX_s hX hs ⟨q3, by omega⟩]
theorem cuM_cg {k w : Int} (h82 : m 82 = mem 82) (h83 : m 83 = mem 83) (h84 : m 84 = mem 84) (h85 : m 85 = mem 85) (h94 : m 94 = mem 94) (h22 : m 80 22 = mem 80 22) : cuM m k w = cuM mem k w := by
  unfold cuM cbM cbQ
  rw [h82, h83, h84, h85, h94, h22]
theorem pr_digest (hn : n ≤ 429496728) (h : IV n mem) : PR m_Cp_digest m_Mo_digest [] 1 n mem := by
  have eN : mem 80 2 = mem 3 1 := h.2.1.2.2.1.1
  have hK := h.2.1.2.1
  have hO := h.2.2.2.2.2.2.2.2.2.1
  have n4 := h.2.1.1.1
  obtain ⟨g1, g2, g3, g4, g5, g6⟩ := h.2.2.2.2.2.1
  obtain ⟨k1, k2, k3, k4, k5, k6⟩ := h.2.2.2.2.2.2.1
  have hT := IV_okT h
  have hpt := IV_PTS h
  have hE : okE mem := ⟨hT, n4, h.2.2.1.1.1, h.1.1, fun i q1 q2 => (h.1.2.2 i q1 q2).1, g1, g2, g4, ⟨by omega, by omega⟩, ⟨by omega, by omega⟩, ⟨by omega, by omega⟩⟩
  have hNm : nmR mem := fun k q1 q2 => by
    have e := (h.2.1.2.2.1.2 k q1 q2).2.2.2
    rw [← e]
    exact h.2.1.2.2.2 k q1 (by omega)
  refine zF_imp (s_Cp_digest mem hE h.2.1.1 h.2.2.1.1 hNm h.2.2.2.2.2.2.2.1.2.2 (IV_hb h) _ hpt) (fun r m z => ?_)
  obtain ⟨h9, hr, hz⟩ := z
  have fr : ∀ a, ¬ (73 ≤ a ∧ a ≤ 76) → m a = mem a := by
    rcases hz with ⟨_, _, hm⟩ | ⟨_, n9, hN, _⟩
    · rw [hm]; exact fun _ _ => rfl
    · exact fun a q => (hN.1 a (by omega) (by omega)).trans (rdF_n (by omega) (by omega))
  have f80 := fr 80 (by decide)
  have hO1 : FRS m := FRS_cg (fun a q1 q2 => fr a (by omega)) (by rw [f80]) (by rw [f80]) (by rw [f80]) (by rw [f80]) hO
  have hK1 : moK m := moK_cg (by rw [f80]) (fr 82 (by decide)) (fr 83 (by decide)) (fr 84 (by decide)) hK
  have eA : lpA m (-1) = lpA mem (-1) := lpA_cg (fr 82 (by decide)) (fr 83 (by decide)) (fr 84 (by decide)) (by rw [f80]) _
  have hX : ∀ m2, DZ m m2 → mem 3 1 ≠ 0 → LX mem m2 := fun m2 hD q => IV_LX h q ((hD.1.1 82 (by decide) (by omega) (by decide)).trans (fr 82 (by decide))) ((hD.1.1 83 (by decide) (by omega) (by decide)).trans (fr 83 (by decide))) ((hD.1.1 84 (by decide) (by omega) (by decide)).trans (fr 84 (by decide))) ((hD.1.2 2 (by decide) (by decide) (by decide) (by decide)).trans (by rw [f80])) (by rw [← eA]; exact hD.2.2 (by rw [f80, eN]; exact q))
  have eC : dxC m = mxC mem 1433 := by
    unfold dxC mxC
    rw [f80, eN]
    refine zfo_cong _ 0 _ (fun k h1 q1 q2 => ?_)
    refine zfo_cong _ 0 _ (fun w h1 _ _ => ?_)
    show 31 * h1 + cuM m k w = 31 * h1 + cuX mem k w
    rw [cuM_cg (fr 82 (by decide)) (fr 83 (by decide)) (fr 84 (by decide)) (fr 85 (by decide)) (fr 94 (by decide)) (by rw [f80]), cu_eq h.2.1 h.2.2.1 ⟨q1, by omega⟩]
  have eE : ∀ x, dxE m (cntX mem) x = dgC mem (dgP mem (dgR mem x)) := fun x => by
    unfold dxE dgC
    refine congrArg (fun y => zfo (fun w h => 31 * h + cntX mem w) (11 - 0 : Int).toNat 0 y) ?_
    unfold dgP
    rw [f80, h.1.2.1, fr 81 (by decide), fr 92 (by decide), g3]
    have e1 : zfo (fun i h => 31 * h + mem 92 i) (mem 78 2 - 0).toNat 0 x = dgR mem x := by
      unfold dgR
      refine zfo_cong _ 0 _ (fun i h1 q1 q2 => ?_)
      show 31 * h1 + mem 92 i = 31 * h1 + mem 79 ((mem 78 1 - 1 - i) % 8)
      rw [g6 i q1 (by omega)]
    rw [e1]
    have p1 := h.1.1
    refine zfo_cong _ 0 _ (fun i h1 q1 q2 => ?_)
    show 31 * h1 + mem 81 i = 31 * h1 + mem 2 i
    rw [(h.1.2.2 i q1 (by omega)).2]
  have hS1 : okSM m := by
    have z := IV_SM h.2.2.1
    unfold okSM
    rw [f80, fr 94 (by decide)]
    exact z
  have base := fun PX hPx => s_Mo_digest m hK1 (by rw [f80, g3]; exact g2) (by rw [fr 92 (by decide)]; exact g5) (by rw [f80, h.1.2.1]; exact h.1.1) (by rw [f80, h.1.2.1, fr 81 (by decide)]; exact fun i q1 q2 => by rw [(h.1.2.2 i q1 q2).2]; exact (h.1.2.2 i q1 q2).1) (cntX mem) (fun m2 w hD _ _ => ⟨cn_eq h (fun _ q => hX m2 hD (by rw [← eN]; exact q)) (fun k q1 q2 q3 q4 => (hD.1.2 k q1 q2 q3 q4).trans (by rw [f80])), cntX_i hE w⟩) hO1 hS1 (by rw [fr 85 (by decide)]; exact h.2.1.2.2.2) (pnX mem (ptR mem 3).2) (fun q m2 p w hD q1 q2 _ _ => by
    rw [f80, eN] at q
    have hX2 := hX m2 hD q
    rw [eA, lp_pt (IV_cur h)] at q2
    exact ⟨LX_tp hX2 ⟨q1, q2⟩, pnX_i hT (hpt p q1 (by rw [(LX_n hX2).2.2.2.2.2.1]; exact q2)).1⟩) (mxS mem) (fun q m2 h1 hD => by
    rw [f80, eN] at q
    exact sy_eq (hX m2 hD q)) PX hPx
  have fin : ∀ m', DZ m m' → IV (n + 1) m' := fun m' hD => by
    refine IV_sam (by omega) ⟨fun a q1 q2 q3 => ?_, fun a q1 q2 q3 q4 => ?_, fun k q1 q2 q3 q4 => ?_, ?_, hD.2.1⟩ h
    · rw [hD.1.1 a (by omega) (by omega) (by omega), fr a (by omega)]
    · rw [hD.1.1 a (by omega) (by omega) (by omega), fr a (by omega)]
    · rw [hD.1.2 k q1 q2 q3 q4, f80]
    · exact okI_fr (fun x q1 q2 => by rw [hD.1.1 x (by omega) (by omega) (by omega), fr x (by omega)]) h.2.2.2.2.2.2.2.2.1
  refine ⟨_, hr, ?_⟩
  rcases hz with ⟨c0, hh, _⟩ | ⟨c0, n9, hN, hh⟩
  · refine zF_imp (base 0 (fun q => absurd (by rw [f80, eN]; exact c0) q)) (fun r' m' z => ⟨?_, fin m' z.2⟩)
    have t5 := h.2.2.2.2.2.2.2.2.2.2.2 c0
    rw [z.1, eE, if_pos (by rw [f80, eN]; exact c0), eC, hh]
    unfold mxS mxP
    rw [zfo_e (n := mem 31 2) (by omega), zfo_e (n := mem 31 1) (by omega)]
  · have eP : ∀ x, dxP m (pnX mem (ptR mem 3).2) x = mxP mem (ptR mem 3).2 x := fun x => by
      have e1 : (lpA m (-1)).1 = mem 31 1 := by
        rw [eA, lp_pt (IV_cur h)]
        exact (h.2.2.2.2.2.2.2.2.2.2.1 c0).2.1.2.1.symm
      unfold dxP mxP
      rw [e1]
    refine zF_imp (base n9 (fun q m1 m2 n2 hD hN2 => ?_)) (fun r' m' z => ⟨?_, fin m' z.2⟩)
    · have hX2 := hX m1 hD c0
      exact (LX_pc hX2 (ML_ok hX2.2.2.1.1 hX2.2.2.1.2.1) (by decide) hN hN2).symm
    · rw [z.1, eE, if_neg (by rw [f80, eN]; exact c0), eC, eP, hh]
end zPS
