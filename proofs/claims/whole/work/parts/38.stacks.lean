/-! stacks, built: all stacks -/
def wF (F : Int → Int → Int) (c o : Int) : Int := if o < c then F c o else if c < o then -F o c else 0
def isM (u : Int → Int) (w : Int → Int → Int) (c : Int) : Prop := u c = 0 ∧ ∀ o, 0 ≤ o → o < c → u o = 0 → w c o ≠ 0
noncomputable def bwM (n : Int) (u : Int → Int) (w : Int → Int → Int) (c : Int) : Int := zsm (fun o => zb (0 < w c o ∧ isM u w o)) (n - 0).toNat 0
noncomputable def nsM (n : Int) (u : Int → Int) (w : Int → Int → Int) : Int := zsm (fun o => zb (isM u w o)) (n - 0).toNat 0
def sgI (m : zMem) (t n : Int) (w : Int → Int → Int) : Prop := ∀ c o, 0 ≤ c → c < n → 0 ≤ o → o < n → m (t + 8) (4 * c + o) = w c o
theorem isF_M {m : zMem} {t n c : Int} {w : Int → Int → Int} (h : sgI m t n w) (hc : 0 ≤ c ∧ c < n) : isF m t c ↔ isM (m (t + 4)) w c := by
  unfold isF isM
  constructor
  · rintro ⟨a, b⟩
    exact ⟨a, fun o q1 q2 q3 => by rw [← h c o hc.1 hc.2 q1 (by omega)]; exact b o q1 q2 q3⟩
  · rintro ⟨a, b⟩
    exact ⟨a, fun o q1 q2 q3 => by rw [h c o hc.1 hc.2 q1 (by omega)]; exact b o q1 q2 q3⟩
theorem blw_M {m : zMem} {t n c : Int} {w : Int → Int → Int} (h : sgI m t n w) (hn : m t 3 = n) (hc : 0 ≤ c ∧ c < n) : blw m t c = bwM n (m (t + 4)) w c := by
  unfold blw bwM
  rw [hn]
  refine zsm_cong _ _ (fun j q1 q2 => ?_)
  have q3 : 0 ≤ j ∧ j < n := by omega
  show zb _ = zb _
  apply zb_iff
  rw [h c j hc.1 hc.2 q3.1 q3.2, isF_M h q3]
theorem nsc_M {m : zMem} {t n : Int} {w : Int → Int → Int} (h : sgI m t n w) (hn : m t 3 = n) : nsc m t = nsM n (m (t + 4)) w := by
  unfold nsc nsM
  rw [hn]
  refine zsm_cong _ _ (fun j q1 q2 => ?_)
  have q3 : 0 ≤ j ∧ j < n := by omega
  show zb _ = zb _
  exact zb_iff (isF_M h q3)
def stM (m : zMem) (t : Int) (x : Pt) (o p : Int) : Int := sgP x (m (t + 5) o - m (t + 5) p) (m (t + 6) o - m (t + 6) p) (m (t + 7) o - m (t + 7) p)
def goM (m : zMem) (t : Int) (x : Pt) (o p : Int) : Int := if stM m t x o p = 0 then (if sgP x 0 (2 * (m (t + 5) o - m (t + 5) p)) (m (t + 6) o - m (t + 6) p) = 0 then cmpI (m (t + 5) o - m (t + 5) p) 0 else sgP x 0 (2 * (m (t + 5) o - m (t + 5) p)) (m (t + 6) o - m (t + 6) p)) else stM m t x o p
def FS (m : zMem) (t : Int) (pt : Int → Pt) (s : Int) : Int → Int → Int := if s = 0 then farL m t else if s % 2 = 1 then stM m t (pt (s / 2)) else goM m t (pt (s / 2 - 1))
def frB (t : Int) (mA m : zMem) : Prop := ∀ x, x ≠ t + 2 → x ≠ t + 3 → x ≠ t + 8 → m x = mA x
/-- the first k stacks are settled -/
def BD (mA : zMem) (t : Int) (pt : Int → Pt) (k : Int) (m : zMem) : Prop := frB t mA m ∧ okG m t ∧ (∀ o, 0 ≤ o → o < 4 → m (t + 8) (4 * o + o) = 0) ∧ (∀ s, 0 ≤ s → s < 25 → 0 ≤ m (t + 2) s ∧ m (t + 2) s ≤ 8) ∧ (∀ x, 0 ≤ x → x < 100 → 0 ≤ m (t + 3) x ∧ m (t + 3) x ≤ 60) ∧ (0 < k → sgI m t (mA t 3) (wF (FS mA t pt (k - 1)))) ∧ ∀ s, 0 ≤ s → s < k → m (t + 2) s = 2 * nsM (mA t 3) (mA (t + 4)) (wF (FS mA t pt s)) ∧ ∀ c, 0 ≤ c → c < mA t 3 → m (t + 3) (4 * s + c) = 2 * bwM (mA t 3) (mA (t + 4)) (wF (FS mA t pt s)) c + 1
theorem BD_C {mA : zMem} {t : Int} {pt : Int → Pt} {k : Int} {m : zMem} (h : BD mA t pt k m) (hC : okC mA t) : okC m t := okC_fr (h.1 _ (by omega) (by omega) (by omega)) (h.1 _ (by omega) (by omega) (by omega)) (h.1 _ (by omega) (by omega) (by omega)) (h.1 _ (by omega) (by omega) (by omega)) (h.1 _ (by omega) (by omega) (by omega)) hC
theorem BD_s {mA : zMem} {t : Int} {pt : Int → Pt} {k : Int} {m m1 m2 : zMem} {F : Int → Int → Int} (hk : 0 ≤ k ∧ k < 25) (hC : okC mA t) (h : BD mA t pt k m) (h1 : SgW t m F (m t 3) 0 m1) (hF : ∀ o p, 0 ≤ p → p < o → o < mA t 3 → F o p = FS mA t pt k o p) (h2 : stl m1 t k m2) : BD mA t pt (k + 1) m2 := by
  have hC1 := BD_C h hC
  obtain ⟨b1, b2, b3, b4, b5, b6, b7⟩ := h
  obtain ⟨a1, a2, a3, a4, a5⟩ := h1
  obtain ⟨s1, s2, s3, s4, s5⟩ := h2
  have e0 : m t = mA t := b1 t (by omega) (by omega) (by omega)
  have e1 : m1 t = mA t := (a1 t (by omega)).trans e0
  have e4 : m1 (t + 4) = mA (t + 4) := (a1 _ (by omega)).trans (b1 _ (by omega) (by omega) (by omega))
  have hn := hC.1
  have hsg : sgI m1 t (mA t 3) (wF (FS mA t pt k)) := by
    intro c o q1 q2 q3 q4
    unfold wF
    by_cases z1 : o < c
    · rw [if_pos z1, ← hF c o q3 z1 q2]
      exact (a2 c o q3 z1 (by omega) (Or.inl (by rw [e0]; exact q2))).1
    · rw [if_neg z1]
      by_cases z2 : c < o
      · rw [if_pos z2, ← hF o c q1 z2 q4]
        exact (a2 o c q1 z2 (by omega) (Or.inl (by rw [e0]; exact q4))).2
      · have z3 : o = c := by omega
        rw [if_neg z2, z3, a4 c q1 (by omega)]
        exact b3 c q1 (by omega)
  have hC1' : okC m1 t := okC_fr (a1 _ (by omega)) (a1 _ (by omega)) (a1 _ (by omega)) (a1 _ (by omega)) (a1 _ (by omega)) hC1
  have e8 : m2 (t + 8) = m1 (t + 8) := s1 _ (by omega) (by omega)
  have e13 : m1 t 3 = mA t 3 := by rw [e1]
  refine ⟨fun x q1 q2 q3 => (s1 x q1 q2).trans ((a1 x q3).trans (b1 x q1 q2 q3)), by unfold okG; rw [e8]; exact a5, fun o q1 q2 => by rw [e8, a4 o q1 q2]; exact b3 o q1 q2, fun s q1 q2 => ?_, fun x q1 q2 => ?_, fun _ => ?_, fun s q1 q2 => ?_⟩
  · by_cases z : s = k
    · rw [z, s4]
      have := nsc_r hC1'
      omega
    · rw [s5 s z, a1 _ (by omega)]
      exact b4 s q1 q2
  · by_cases z : x < 4 * k ∨ 4 * k + m1 t 3 ≤ x
    · rw [s3 x z, a1 _ (by omega)]
      exact b5 x q1 q2
    · have z2 := s2 (x - 4 * k) (by omega) (by omega)
      rw [show 4 * k + (x - 4 * k) = x by omega] at z2
      have := blw_r (c := x - 4 * k) hC1'
      omega
  · rw [show k + 1 - 1 = k by omega]
    intro c o y1 y2 y3 y4
    rw [e8]
    exact hsg c o y1 y2 y3 y4
  · by_cases z : s = k
    · subst z
      rw [s4, nsc_M hsg e13, e4]
      refine ⟨rfl, fun c y1 y2 => ?_⟩
      rw [s2 c y1 (by omega), blw_M hsg e13 ⟨y1, y2⟩, e4]
    · rw [s5 s z, a1 (t + 2) (by omega)]
      refine ⟨(b7 s q1 (by omega)).1, fun c y1 y2 => ?_⟩
      rw [s3 _ (by omega), a1 (t + 3) (by omega)]
      exact (b7 s q1 (by omega)).2 c y1 y2
theorem PS_B {mA : zMem} {t : Int} {s : PtS} {m : zMem} (h : frB t mA m) (hs : PS mA t s) : RT m t ∧ PTS m t s.2 ∧ (0 ≤ m t 1 ∧ m t 1 ≤ 12) ∧ m t 1 = s.1 := by
  obtain ⟨h1, h2, h3, h4⟩ := hs
  have e0 : m t = mA t := h _ (by omega) (by omega) (by omega)
  have e1 : m (t + 1) = mA (t + 1) := h _ (by omega) (by omega) (by omega)
  refine ⟨by unfold RT; rw [e1]; exact h1, fun p q1 q2 => ?_, by rw [e0, h2]; exact h3, by rw [e0]; exact h2⟩
  rw [e0, h2] at q2
  obtain ⟨z1, z2⟩ := h4 p q1 q2
  have z3 : t + 9 ≤ mA (t + 1) p ∧ mA (t + 1) p < t + 21 := h1.1 p q1 (by omega)
  refine ⟨z1, ?_⟩
  rw [e1, ← z2]
  unfold rP
  rw [h _ (by omega) (by omega) (by omega)]
theorem FS_0 {mA : zMem} {t : Int} {pt : Int → Pt} : FS mA t pt 0 = farL mA t := if_pos rfl
theorem FS_1 {mA : zMem} {t : Int} {pt : Int → Pt} {p : Int} (hp : 0 ≤ p) : FS mA t pt (2 * p + 1) = stM mA t (pt p) := by
  unfold FS
  rw [if_neg (by omega), if_pos (by omega), show (2 * p + 1) / 2 = p by omega]
theorem FS_2 {mA : zMem} {t : Int} {pt : Int → Pt} {p : Int} (hp : 0 ≤ p) : FS mA t pt (2 * p + 2) = goM mA t (pt p) := by
  unfold FS
  rw [if_neg (by omega), if_neg (by omega), show (2 * p + 2) / 2 - 1 = p by omega]
theorem st_F {mA m : zMem} {t x : Int} {y : Pt} (h : frB t mA m) (hx : rP m x = y) (o p : Int) : stpF m t x o p = stM mA t y o p := by
  unfold stpF stM
  rw [hx, h (t + 5) (by omega) (by omega) (by omega), h (t + 6) (by omega) (by omega) (by omega), h (t + 7) (by omega) (by omega) (by omega)]
theorem go_F {mA m : zMem} {t x n : Int} {y : Pt} (h : frB t mA m) (hx : rP m x = y) (hs : sgI m t n (wF (stM mA t y))) (o p : Int) (q1 : 0 ≤ p) (q2 : p < o) (q3 : o < n) : goF m t x o p = goM mA t y o p := by
  have e := hs o p (by omega) q3 q1 (by omega)
  unfold wF at e
  rw [if_pos q2] at e
  unfold goF goM
  rw [e, hx, h (t + 5) (by omega) (by omega) (by omega), h (t + 6) (by omega) (by omega) (by omega)]
theorem okC_sg {t : Int} {m0 m : zMem} {F : Int → Int → Int} {a b : Int} (h : SgW t m0 F a b m) (hC : okC m0 t) : okC m t := okC_fr (h.1 _ (by omega)) (h.1 _ (by omega)) (h.1 _ (by omega)) (h.1 _ (by omega)) (h.1 _ (by omega)) hC
theorem s_St_build_91 (mA : zMem) (t : Int) (h : isSt t) (hC0 : okC mA t) (s : PtS) (hs : PS mA t s) (hz : mA t 2 = 2 * s.1 + 1) (Q9 : zQ2) (kq : ∀ m m9, BD mA t s.2 (2 * s.1 + 1) m → plW m t s.2 (mA t 3) 0 m9 → Q9 none m9) : ∀ (p : Int) (m : zMem), (0 ≤ p ∧ p ≤ s.1) → (BD mA t s.2 (2 * p + 1) m) → zS zT m_St_build (0, 0) 91 [some (2, t), none, some (0, p), none] [] m (zQs (Q9)) := by
  intro p m
  obtain ⟨k9, hk9⟩ : ∃ kq : Nat, (s.1 - p).toNat = kq := ⟨_, rfl⟩
  induction k9 using Nat.strongRecOn generalizing p m with
  | _ k9 ih =>
    intro i0 i1
    have g1 := PS_B i1.1 hs
    have e0 : m t = mA t := i1.1 _ (by omega) (by omega) (by omega)
    have e02 : m t 2 = mA t 2 := by rw [e0]
    have e03 : m t 3 = mA t 3 := by rw [e0]
    have gn := g1.2.2
    refine zV_iload_n d_St_build_91 rfl ?_
    refine zV_aload_n d_St_build_92 rfl ?_
    refine zS_get d_St_build_93 f_St_17 (kSt0 h) rfl ?_
    refine zV_icmp_ge d_St_build_96 (by omega) (by omega) (fun c96 => ?_) (fun c96 => ?_)
    · refine zV_aload_n d_St_build_143 rfl ?_
      refine zS_invv (mt' := m_St_placeUprights) (avs := []) (st := []) d_St_build_144 l_St_77 k_St_placeUprights (kSt0 h) rfl rfl rfl rfl (s_St_placeUprights m t h (BD_C i1 hC0) g1.1 s.2 g1.2.1 g1.2.2.1 (by omega)) (fun r9 m7 hq9 => ?_)
      obtain ⟨rfl, w7⟩ := hq9
      show zS zT m_St_build (0, 0) 147 [some (2, t), none, some (0, p), none] [] m7 _
      exact zS_vret d_St_build_147 rfl ⟨Nat.zero_le _, Nat.zero_le _⟩ (kq m m7 (by rw [show s.1 = p by omega]; exact i1) (by rw [← e03]; exact w7))
    · refine zV_aload_n d_St_build_99 rfl ?_
      refine zV_aload_n d_St_build_100 rfl ?_
      refine zS_getr (r := (t + 1)) d_St_build_101 f_St_11 (kSt0 h) rfl rfl ?_
      refine zV_iload_n d_St_build_104 rfl ?_
      refine zS_ald16 d_St_build_105 (kSt1 h) rfl ⟨by omega, by omega⟩ ?_
      refine zS_invv (mt' := m_St_stopAt) (avs := [(2, (m (t + 1) p))]) (st := []) d_St_build_106 l_St_70 k_St_stopAt (kSt0 h) rfl rfl rfl rfl (s_St_stopAt m t h (BD_C i1 hC0) i1.2.1 (m (t + 1) p) (kRoc h (g1.1.1 p (by omega) (by omega))) (by rw [(g1.2.1 p i0.1 (by omega)).2]; exact (g1.2.1 p i0.1 (by omega)).1)) (fun r9 m3 hq9 => ?_)
      obtain ⟨rfl, w3⟩ := hq9
      show zS zT m_St_build (0, 0) 109 [some (2, t), none, some (0, p), none] [] m3 _
      refine zV_aload_n d_St_build_109 rfl ?_
      refine zV_iconst d_St_build_110 ?_
      refine zV_iload_n d_St_build_111 rfl ?_
      refine zV_imul d_St_build_112 ?_
      refine zV_iconst d_St_build_113 ?_
      refine zV_iadd d_St_build_114 ?_
      refine zS_invv (mt' := m_St_settle) (avs := [(0, ((2 * p) + 1))]) (st := []) d_St_build_115 l_St_66 k_St_settle (kSt0 h) rfl rfl rfl rfl (s_St_settle m3 t ((2 * p) + 1) h (okC_sg w3 (BD_C i1 hC0)) w3.2.2.2.2 (by omega)) (fun r9 m4 hq9 => ?_)
      obtain ⟨rfl, w4⟩ := hq9
      have b4 := BD_s (by omega) hC0 i1 w3 (fun o q z1 z2 z3 => by rw [FS_1 i0.1]; exact st_F i1.1 (g1.2.1 p i0.1 (by omega)).2 o q) w4
      have g4 := PS_B b4.1 hs
      show zS zT m_St_build (0, 0) 118 [some (2, t), none, some (0, p), none] [] m4 _
      refine zV_aload_n d_St_build_118 rfl ?_
      refine zV_aload_n d_St_build_119 rfl ?_
      refine zS_getr (r := (t + 1)) d_St_build_120 f_St_11 (kSt0 h) rfl rfl ?_
      refine zV_iload_n d_St_build_123 rfl ?_
      refine zS_ald16 d_St_build_124 (kSt1 h) rfl ⟨by omega, by omega⟩ ?_
      refine zS_invv (mt' := m_St_goOnFrom) (avs := [(2, (m4 (t + 1) p))]) (st := []) d_St_build_125 l_St_74 k_St_goOnFrom (kSt0 h) rfl rfl rfl rfl (s_St_goOnFrom m4 t h (BD_C b4 hC0) b4.2.1 (m4 (t + 1) p) (kRoc h (g4.1.1 p (by omega) (by omega))) (by rw [(g4.2.1 p i0.1 (by omega)).2]; exact (g4.2.1 p i0.1 (by omega)).1)) (fun r9 m5 hq9 => ?_)
      obtain ⟨rfl, w5⟩ := hq9
      show zS zT m_St_build (0, 0) 128 [some (2, t), none, some (0, p), none] [] m5 _
      refine zV_aload_n d_St_build_128 rfl ?_
      refine zV_iconst d_St_build_129 ?_
      refine zV_iload_n d_St_build_130 rfl ?_
      refine zV_imul d_St_build_131 ?_
      refine zV_iconst d_St_build_132 ?_
      refine zV_iadd d_St_build_133 ?_
      refine zS_invv (mt' := m_St_settle) (avs := [(0, ((2 * p) + 2))]) (st := []) d_St_build_134 l_St_66 k_St_settle (kSt0 h) rfl rfl rfl rfl (s_St_settle m5 t ((2 * p) + 2) h (okC_sg w5 (BD_C b4 hC0)) w5.2.2.2.2 (by omega)) (fun r9 m6 hq9 => ?_)
      obtain ⟨rfl, w6⟩ := hq9
      show zS zT m_St_build (0, 0) 137 [some (2, t), none, some (0, p), none] [] m6 _
      refine zV_iinc (L' := [some (2, t), none, some (0, (p + 1)), none]) d_St_build_137 (by decide) rfl rfl ?_
      refine zV_goto d_St_build_140 ?_
      have b5 : BD mA t s.2 (2 * p + 2) m4 := by rw [show 2 * p + 2 = 2 * p + 1 + 1 by omega]; exact b4
      have sg := b4.2.2.2.2.2.1 (by omega)
      rw [show 2 * p + 1 + 1 - 1 = 2 * p + 1 by omega, FS_1 i0.1] at sg
      refine ih _ (by omega) (p + 1) m6 rfl (by omega) ?_
      rw [show 2 * (p + 1) + 1 = 2 * p + 2 + 1 by omega]
      refine BD_s (by omega) hC0 b5 w5 (fun o q z1 z2 z3 => ?_) w6
      rw [FS_2 i0.1]
      exact go_F b4.1 (g4.2.1 p i0.1 (by omega)).2 sg o q z1 z2 z3
def okB (m : zMem) (t : Int) : Prop := okG m t ∧ (∀ o, 0 ≤ o → o < 4 → m (t + 8) (4 * o + o) = 0) ∧ (∀ s, 0 ≤ s → s < 25 → 0 ≤ m (t + 2) s ∧ m (t + 2) s ≤ 8) ∧ (∀ x, 0 ≤ x → x < 100 → 0 ≤ m (t + 3) x ∧ m (t + 3) x ≤ 60)
theorem okB_fr {t : Int} {m0 m : zMem} (h2 : m (t + 2) = m0 (t + 2)) (h3 : m (t + 3) = m0 (t + 3)) (h8 : m (t + 8) = m0 (t + 8)) (h : okB m0 t) : okB m t := by
  unfold okB okG
  unfold okB okG at h
  rw [h2, h3, h8]
  exact h
theorem BD_0 {mA : zMem} {t : Int} {pt : Int → Pt} (h : okB mA t) : BD mA t pt 0 mA := ⟨fun _ _ _ _ => rfl, h.1, h.2.1, h.2.2.1, h.2.2.2, fun z => absurd z (by decide), fun s q1 q2 => by omega⟩
theorem s_St_build_68 (m : zMem) (t : Int) (h : isSt t) (hC : okC m t) (hB : okB m t) (s : PtS) (hs : PS m t s) (Q9 : zQ2) (kq : ∀ m1 m9, BD (zup m t 2 (2 * m t 1 + 1)) t s.2 (2 * s.1 + 1) m1 → plW m1 t s.2 ((zup m t 2 (2 * m t 1 + 1)) t 3) 0 m9 → Q9 none m9) : zS zT m_St_build (0, 0) 68 [some (2, t), none, none, none] [] m (zQs (Q9)) := by
  have hCA : okC (zup m t 2 (2 * m t 1 + 1)) t := by unfold okC; rw [zup_f, uf_n (by omega), zup_a (by omega), zup_a (by omega), zup_a (by omega), zup_a (by omega)]; exact hC
  have hBA : okB (zup m t 2 (2 * m t 1 + 1)) t := okB_fr (zup_a (by omega)) (zup_a (by omega)) (zup_a (by omega)) hB
  have hsA : PS (zup m t 2 (2 * m t 1 + 1)) t s := by
    obtain ⟨z1, z2, z3, z4⟩ := hs
    refine ⟨by unfold RT; rw [zup_a (by omega)]; exact z1, by rw [zup_f, uf_n (by omega)]; exact z2, z3, fun p q1 q2 => ⟨(z4 p q1 q2).1, ?_⟩⟩
    have z5 : t + 9 ≤ m (t + 1) p ∧ m (t + 1) p < t + 21 := z1.1 p q1 (by omega)
    rw [zup_a (by omega), ← (z4 p q1 q2).2]
    unfold rP
    rw [zup_a (by omega)]
  refine zV_aload_n d_St_build_68 rfl ?_
  refine zV_iconst d_St_build_69 ?_
  refine zV_aload_n d_St_build_70 rfl ?_
  refine zS_get d_St_build_71 f_St_17 (kSt0 h) rfl ?_
  refine zV_imul d_St_build_74 ?_
  refine zV_iconst d_St_build_75 ?_
  refine zV_iadd d_St_build_76 ?_
  refine zS_puti d_St_build_77 f_St_21 (kSt0 h) ⟨rfl, rfl⟩ rfl ?_
  refine zV_aload_n d_St_build_80 rfl ?_
  refine zS_invv (mt' := m_St_comeFromFarLeft) (avs := []) (st := []) d_St_build_81 l_St_63 k_St_comeFromFarLeft (kSt0 h) rfl rfl rfl rfl (s_St_comeFromFarLeft (zup m t 2 (2 * m t 1 + 1)) t h hCA hBA.1) (fun r9 m3 hq9 => ?_)
  obtain ⟨rfl, w3⟩ := hq9
  show zS zT m_St_build (0, 0) 84 [some (2, t), none, none, none] [] m3 _
  refine zV_aload_n d_St_build_84 rfl ?_
  refine zV_iconst d_St_build_85 ?_
  refine zS_invv (mt' := m_St_settle) (avs := [(0, 0)]) (st := []) d_St_build_86 l_St_66 k_St_settle (kSt0 h) rfl rfl rfl rfl (s_St_settle m3 t 0 h (okC_sg w3 hCA) w3.2.2.2.2 (by omega)) (fun r9 m4 hq9 => ?_)
  obtain ⟨rfl, w4⟩ := hq9
  show zS zT m_St_build (0, 0) 89 [some (2, t), none, none, none] [] m4 _
  refine zV_iconst d_St_build_89 ?_
  refine zV_istore_n (L' := [some (2, t), none, some (0, 0), none]) d_St_build_90 (by decide) rfl ?_
  have b1 := BD_s (k := 0) (pt := s.2) (by omega) hCA (BD_0 hBA) w3 (fun o p _ _ _ => by rw [FS_0]) w4
  exact s_St_build_91 (zup m t 2 (2 * m t 1 + 1)) t h hCA s hsA (by rw [zup_s, hs.2.1]) Q9 kq 0 m4 ⟨by omega, hs.2.2.1.1⟩ b1
def bldR (mem : zMem) (t o : Int) (m9 : zMem) : Prop := ∃ m1 mp m3, rdW mem t o (mem o 1) m1 ∧ PS mp t (allP (zup m1 t 1 0) t (0, fun _ => (0, 0, 0, 1))) ∧ frE t (zup m1 t 1 0) mp ∧ BD (zup mp t 2 (2 * mp t 1 + 1)) t (allP (zup m1 t 1 0) t (0, fun _ => (0, 0, 0, 1))).2 (2 * (allP (zup m1 t 1 0) t (0, fun _ => (0, 0, 0, 1))).1 + 1) m3 ∧ plW m3 t (allP (zup m1 t 1 0) t (0, fun _ => (0, 0, 0, 1))).2 (zup mp t 2 (2 * mp t 1 + 1) t 3) 0 m9
theorem rd_C {mem m1 : zMem} {t o : Int} (hK : rwK mem o) (hC : okC mem t) (h : rdW mem t o (mem o 1) m1) : okC m1 t := by
  obtain ⟨g1, g2, g3⟩ := h
  refine ⟨by rw [g2, uf_s]; exact hK.1, fun c q1 q2 => ?_⟩
  obtain ⟨k4, k5, k6, k7⟩ := g3 c
  have hc := hC.2 c q1 q2
  rw [k4, k5, k6, k7]
  by_cases e : 0 ≤ c ∧ c < mem o 1
  · have hk := hK.2 c q1 e.2
    have hz := zb_01 (mem (o + 2 + c) 0 = 3)
    rw [if_pos e, if_pos e, if_pos e, if_pos e]
    refine ⟨?_, ?_, hk.2.2, hz⟩
    · unfold sqK; split <;> (try split) <;> omega
    · unfold slK; split <;> omega
  · rw [if_neg e, if_neg e, if_neg e, if_neg e]
    exact hc
theorem okC_z {m : zMem} {t v : Int} (h : okC m t) : okC (zup m t 1 v) t := by
  unfold okC
  rw [zup_f, uf_n (by omega), zup_a (by omega), zup_a (by omega), zup_a (by omega), zup_a (by omega)]
  exact h
theorem s_St_build (mem : zMem) (t o : Int) (h : isSt t) (h2 : isRw o) (hK : rwK mem o) (hC : okC mem t) (hB : okB mem t) (hR : RT mem t) : zF m_St_build [(2, t), (2, o)] mem (fun r m => r = none ∧ bldR mem t o m) := by
  refine zF_of (by decide) (Nat.le_of_ble_eq_true rfl) ?_
  show zS zT m_St_build (0, 0) 0 [some (2, t), some (2, o), none, none] [] mem _
  refine zV_aload_n d_St_build_0 rfl ?_
  refine zV_aload_n d_St_build_1 rfl ?_
  refine zS_invv (mt' := m_St_readCurves) (avs := [(2, o)]) (st := []) d_St_build_2 l_St_51 k_St_readCurves (kSt0 h) rfl rfl rfl rfl (s_St_readCurves mem t o h h2 hK) (fun r9 m1 hq9 => ?_)
  obtain ⟨rfl, w1⟩ := hq9
  have hC1 : okC (zup m1 t 1 0) t := okC_z (rd_C hK hC w1)
  show zS zT m_St_build (0, 0) 5 [some (2, t), some (2, o), none, none] [] m1 _
  refine zV_aload_n d_St_build_5 rfl ?_
  refine zV_iconst d_St_build_6 ?_
  refine zS_puti d_St_build_7 f_St_17 (kSt0 h) ⟨rfl, rfl⟩ rfl ?_
  refine zV_iconst d_St_build_10 ?_
  refine zV_istore_n (L' := [some (2, t), some (2, o), some (0, 0), none]) d_St_build_11 (by decide) rfl ?_
  refine zV_forget (L' := [some (2, t), none, some (0, 0), none]) (by simp [zle]) ?_
  refine s_St_build_12 (zup m1 t 1 0) t h hC1 (allP (zup m1 t 1 0) t (0, fun _ => (0, 0, 0, 1))) _ (fun mp p1 p2 => ?_) 0 (zup m1 t 1 0) (0, fun _ => (0, 0, 0, 1)) ⟨by omega, hC1.1.1⟩ ?_ (frE_r _ _) rfl
  · refine s_St_build_68 mp t h (okC_fe p2 hC1) (okB_fr ?_ ?_ ?_ hB) _ p1 _ (fun m3 m9 q1 q2 => ⟨rfl, m1, mp, m3, w1, p1, p2, q1, q2⟩)
    · rw [frE_a p2 (k := 2) (by omega), zup_a (by omega), w1.1 _ (by omega) (by omega) (by omega) (by omega) (by omega)]
    · rw [frE_a p2 (k := 3) (by omega), zup_a (by omega), w1.1 _ (by omega) (by omega) (by omega) (by omega) (by omega)]
    · rw [frE_a p2 (k := 8) (by omega), zup_a (by omega), w1.1 _ (by omega) (by omega) (by omega) (by omega) (by omega)]
  · refine ⟨?_, zup_s, ⟨by decide, by decide⟩, fun p q1 q2 => by have q3 : p < 0 := q2; omega⟩
    unfold RT
    rw [zup_a (by omega), w1.1 _ (by omega) (by omega) (by omega) (by omega) (by omega)]
    exact hR
