/-! groups: joining neighbours -/
def ExG (D : Int → Prop) (E : Int → Int → Prop) (ρ0 ρ : Int → Int) : Prop := (∀ x, D x → (ρ x = -1 ↔ ρ0 x = -1)) ∧ (∀ x y, D x → D y → ρ0 x = ρ0 y → ρ x = ρ y) ∧ (∀ g : Int → Int, (∀ u v, E u v → D u → D v → ρ0 u ≠ -1 → ρ0 v ≠ -1 → g u = g v) → (∀ x, D x → ρ0 x ≠ -1 → g (ρ0 x) = g x) → ∀ x, D x → ρ x ≠ -1 → g (ρ x) = g x)
theorem ExG_rf (D : Int → Prop) (E : Int → Int → Prop) (ρ : Int → Int) : ExG D E ρ ρ := ⟨fun _ _ => Iff.rfl, fun _ _ _ _ h => h, fun _ _ h => h⟩
theorem ExG_tr {D : Int → Prop} {E : Int → Int → Prop} {ρ0 ρ1 ρ2 : Int → Int} (h : ExG D E ρ0 ρ1) (h' : ExG D E ρ1 ρ2) : ExG D E ρ0 ρ2 := by
  refine ⟨fun x hx => (h'.1 x hx).trans (h.1 x hx), fun x y hx hy e => h'.2.1 x y hx hy (h.2.1 x y hx hy e), fun g g1 g2 => ?_⟩
  exact h'.2.2 g (fun u v e hu hv a b => g1 u v e hu hv (fun q => a ((h.1 u hu).mpr q)) (fun q => b ((h.1 v hv).mpr q))) (h.2.2 g g1 g2)
theorem GR_pos {f : Int → Int} {D : Int → Prop} {ρ : Int → Int} (h : GR f D ρ) {x : Int} (hx : D x) (hm : ρ x ≠ -1) : 0 ≤ ρ x ∧ ρ x ≤ x ∧ D (ρ x) ∧ ρ (ρ x) = ρ x := by
  rcases (h x hx).2 with ⟨_, q⟩ | ⟨_, _, _, _, q5, q6, q7, _, q9, _⟩
  · exact absurd q hm
  · exact ⟨q5, q6, q7, q9⟩
theorem jn_co {ρ : Int → Int} {a b x y : Int} (h : ρ x = ρ y) : jnR ρ a b x = jnR ρ a b y := by
  by_cases hb : ρ b = -1
  · rw [jnR_n hb]; exact h
  · rw [jnR_v hb, jnR_v hb, h]
theorem jn_ab {ρ : Int → Int} {a b : Int} (hb : ρ b ≠ -1) : jnR ρ a b a = jnR ρ a b b := by
  rw [jnR_v hb, jnR_v hb]
  by_cases h : ρ a = ρ b
  · rw [h]
  · obtain ⟨_, hmm⟩ := mm_lt h
    rcases hmm with ⟨e1, e2⟩ | ⟨e1, e2⟩ <;> rw [e1, e2]
    · rw [if_neg h, if_pos rfl]
    · rw [if_pos rfl, if_neg (fun q => h q.symm)]
theorem ExG_jn {f : Int → Int} {D : Int → Prop} {E : Int → Int → Prop} {ρ0 ρ : Int → Int} {a b : Int} (h : ExG D E ρ0 ρ) (hG : GR f D ρ) (ha : D a) (hb : D b) (hma : ρ a ≠ -1) (hE : E a b) : ExG D E ρ0 (jnR ρ a b) := by
  obtain ⟨h1, h2, h3⟩ := h
  by_cases hmb : ρ b = -1
  · rw [jnR_n hmb]; exact ⟨h1, h2, h3⟩
  have pa := GR_pos hG ha hma
  have pb := GR_pos hG hb hmb
  have hmn : 0 ≤ minI (ρ a) (ρ b) ∧ 0 ≤ maxI (ρ a) (ρ b) := by unfold minI maxI; split <;> split <;> omega
  refine ⟨fun x hx => ?_, fun x y hx hy e => jn_co (h2 x y hx hy e), fun g g1 g2 x hx hm => ?_⟩
  · rw [← h1 x hx, jnR_v hmb]
    split <;> omega
  · have hg := h3 g g1 g2
    have e1 := hg a ha hma
    have e2 := hg b hb hmb
    have e3 := g1 a b hE ha hb (fun q => hma ((h1 a ha).mpr q)) (fun q => hmb ((h1 b hb).mpr q))
    rw [jnR_v hmb] at hm ⊢
    have hmx : ρ x ≠ -1 := by
      intro q
      rw [if_neg (by omega)] at hm
      exact hm q
    have e4 := hg x hx hmx
    split
    · next hM =>
      by_cases hab : ρ a = ρ b
      · rw [hab, (mm_eq).1]
        rw [hab, (mm_eq).2] at hM
        rw [← hM]; exact e4
      · obtain ⟨_, hmm⟩ := mm_lt hab
        rcases hmm with ⟨f1, f2⟩ | ⟨f1, f2⟩
        · rw [f1]; rw [f2] at hM; rw [hM] at e4; omega
        · rw [f1]; rw [f2] at hM; rw [hM] at e4; omega
    · exact e4
def PX (D : Int → Prop) (E : Int → Int → Prop) (ρ0 : Int → Int) (m0 : zMem) (pl : Int) (Dn : Int → Prop) (m : zMem) (ρ : Int → Int) : Prop := GX D m ρ ∧ ExG D E ρ0 ρ ∧ frG m0 m ∧ ∀ y, Dn y → D y → ρ0 y ≠ -1 → ρ pl = ρ y
theorem PX_jn {D : Int → Prop} {E : Int → Int → Prop} {ρ0 : Int → Int} {m0 : zMem} {pl : Int} {Dn : Int → Prop} {m m' : zMem} {ρ : Int → Int} {y : Int} (h : PX D E ρ0 m0 pl Dn m ρ) (hp : D pl) (hy : D y) (hm : ρ0 pl ≠ -1) (hE : E pl y) (h1 : GX D m' (jnR ρ pl y)) (h2 : frG m m') : PX D E ρ0 m0 pl (fun z => Dn z ∨ z = y) m' (jnR ρ pl y) := by
  obtain ⟨a1, a2, a3, a4⟩ := h
  have hmr : ρ pl ≠ -1 := fun q => hm ((a2.1 pl hp).mp q)
  refine ⟨h1, ExG_jn a2 a1.1 hp hy hmr hE, fun a b1 b2 => (h2 a b1 b2).trans (a3 a b1 b2), fun z hz hD hz2 => ?_⟩
  rcases hz with hz | rfl
  · exact jn_co (a4 z hz hD hz2)
  · exact jn_ab (fun q => hz2 ((a2.1 z hD).mp q))
theorem PX_w {D : Int → Prop} {E : Int → Int → Prop} {ρ0 : Int → Int} {m0 : zMem} {pl : Int} {Dn Dn' : Int → Prop} {m : zMem} {ρ : Int → Int} (h : PX D E ρ0 m0 pl Dn m ρ) (hd : ∀ y, Dn' y → Dn y) : PX D E ρ0 m0 pl Dn' m ρ := ⟨h.1, h.2.1, h.2.2.1, fun y hy => h.2.2.2 y (hd y hy)⟩
def inD (mem : zMem) (t x : Int) : Prop := ∃ s j, 0 ≤ s ∧ s < mem t 2 ∧ 0 ≤ j ∧ j ≤ mem (t + 2) s ∧ x = 9 * s + j
def edX (mem : zMem) (t x y : Int) : Prop := (∃ s j, 0 ≤ s ∧ s < mem t 2 ∧ 0 < j ∧ j ≤ mem (t + 2) s ∧ x = 9 * s + j ∧ y = 9 * s + j - 1) ∨ (∃ s j b k, 0 ≤ s ∧ s < mem t 2 ∧ s % 2 = 0 ∧ 0 ≤ j ∧ j ≤ mem (t + 2) s ∧ (b = s - 1 ∨ b = s + 1) ∧ 0 ≤ b ∧ b < mem t 2 ∧ lwB mem t s j b ≤ k ∧ k ≤ hiB mem t s j b ∧ x = 9 * s + j ∧ y = 9 * b + k)
def hbX (mem : zMem) (t : Int) : Prop := ∀ s j b, 0 ≤ s → s < mem t 2 → s % 2 = 0 → 0 ≤ j → j ≤ mem (t + 2) s → (b = s - 1 ∨ b = s + 1) → 0 ≤ b → b < mem t 2 → hiB mem t s j b ≤ mem (t + 2) b
theorem fr_t {m0 m : zMem} {t : Int} (h : frG m0 m) (ht : isSt t) : m t = m0 t ∧ m (t + 2) = m0 (t + 2) ∧ m (t + 3) = m0 (t + 3) ∧ m (t + 4) = m0 (t + 4) ∧ m 73 = m0 73 ∧ m 74 = m0 74 := by
  have h9 : t = 31 ∨ t = 52 := ht
  exact ⟨h _ (by omega) (by omega), h _ (by omega) (by omega), h _ (by omega) (by omega), h _ (by omega) (by omega), h _ (by omega) (by omega), h _ (by omega) (by omega)⟩
theorem okT_fr {m0 m : zMem} {t : Int} (h : frG m0 m) (ht : isSt t) (hT : okT m0 t) : okT m t := by
  obtain ⟨e1, e2, e3, e4, _⟩ := fr_t h ht
  unfold okT
  rw [e1, e2, e3, e4]
  exact hT
theorem lwB_fr {m0 m : zMem} {t : Int} (h : frG m0 m) (ht : isSt t) (s j b : Int) : lwB m t s j b = lwB m0 t s j b := by
  obtain ⟨e1, e2, e3, e4, _⟩ := fr_t h ht
  unfold lwB scB
  rw [e1, e3, e4]
theorem hiB_fr {m0 m : zMem} {t : Int} (h : frG m0 m) (ht : isSt t) (s j b : Int) : hiB m t s j b = hiB m0 t s j b := by
  obtain ⟨e1, e2, e3, e4, _⟩ := fr_t h ht
  unfold hiB scB
  rw [e1, e2, e3, e4]
theorem sdS_fr {m0 m : zMem} {t : Int} (h : frG m0 m) (ht : isSt t) (s j c : Int) : sdS m t s j c = sdS m0 t s j c := by
  obtain ⟨e1, e2, e3, e4, _⟩ := fr_t h ht
  unfold sdS
  rw [e3, e4]
theorem hdX_fr {m0 m : zMem} {t : Int} (h : frG m0 m) (ht : isSt t) (s j : Int) : hdX m t s j ↔ hdX m0 t s j := by
  obtain ⟨e1, e2, e3, e4, e5, e6⟩ := fr_t h ht
  unfold hdX sdS
  rw [e1, e3, e4, e5, e6]
theorem s_Gr_jn_l (m0 : zMem) (t s j : Int) (h : isSt t) (hT0 : okT m0 t) (hB : hbX m0 t) (hs : 0 ≤ s ∧ s < m0 t 2) (hj : 0 ≤ j ∧ j ≤ m0 (t + 2) s) (ρ0 : Int → Int) (hm : ρ0 (9 * s + j) ≠ -1) (b lo hi : Int) (hse : s % 2 = 0) (hb : (b = s - 1 ∨ b = s + 1) ∧ 0 ≤ b ∧ b < m0 t 2) (hlo : lo = lwB m0 t s j b) (hhi : hi = hiB m0 t s j b) (Dn : Int → Prop) (Q9 : zQ2) (kk : ∀ m ρ, PX (inD m0 t) (edX m0 t) ρ0 m0 (9 * s + j) (fun y => Dn y ∨ ∃ k, lo ≤ k ∧ k ≤ hi ∧ y = 9 * b + k) m ρ → zS zT m_Gr_joinNeighbours (0, 0) 97 [some (2, 75), some (2, t), some (0, s), some (0, j), some (0, 9 * s + j), some (0, b), none, none] [] m (zQs Q9)) : ∀ (k : Int) (m : zMem) (ρ : Int → Int), (lo ≤ k ∧ k ≤ 61) → (PX (inD m0 t) (edX m0 t) ρ0 m0 (9 * s + j) (fun y => Dn y ∨ ∃ k9, lo ≤ k9 ∧ k9 < k ∧ y = 9 * b + k9) m ρ) → zS zT m_Gr_joinNeighbours (0, 0) 71 [some (2, 75), some (2, t), some (0, s), some (0, j), some (0, (9 * s + j)), some (0, b), some (0, hi), some (0, k)] [] m (zQs (Q9)) := by
  intro k m ρ
  obtain ⟨k9, hk9⟩ : ∃ kq : Nat, (hi + 1 - k).toNat = kq := ⟨_, rfl⟩
  induction k9 using Nat.strongRecOn generalizing k m ρ with
  | _ k9 ih =>
    intro i0 i1
    obtain ⟨t1, t2, t3, t4, t5, t6⟩ := id hT0
    have f1 := lwB_r (s := s) (j := j) hT0 (⟨hb.2.1, by omega⟩ : 0 ≤ b ∧ b < 25)
    have f2 := hiB_r (s := s) (j := j) hT0 (⟨hb.2.1, by omega⟩ : 0 ≤ b ∧ b < 25)
    have f3 := hB s j b hs.1 hs.2 hse hj.1 hj.2 hb.1 hb.2.1 hb.2.2
    have hpl : inD m0 t (9 * s + j) := ⟨s, j, hs.1, hs.2, hj.1, hj.2, rfl⟩
    have hmr : ρ (9 * s + j) ≠ -1 := fun q => hm ((i1.2.1.1 _ hpl).mp q)
    refine zV_iload d_Gr_joinNeighbours_71 rfl ?_
    refine zV_iload d_Gr_joinNeighbours_73 rfl ?_
    refine zV_icmp_gt d_Gr_joinNeighbours_75 (by omega) (by omega) (fun c75 => ?_) (fun c75 => ?_)
    · refine zV_forget (L' := [some (2, 75), some (2, t), some (0, s), some (0, j), some (0, (9 * s + j)), some (0, b), none, none]) (by simp [zle]) ?_
      refine kk m ρ (PX_w i1 ?_)
      intro y hy
      rcases hy with hy | ⟨k9, e1, e2, e3⟩
      · exact Or.inl hy
      · exact Or.inr ⟨k9, e1, by omega, e3⟩
    · refine zV_aload_n d_Gr_joinNeighbours_78 rfl ?_
      refine zV_iload d_Gr_joinNeighbours_79 rfl ?_
      refine zV_iload d_Gr_joinNeighbours_81 rfl ?_
      refine zV_iload d_Gr_joinNeighbours_83 rfl ?_
      refine zS_invsE (mt' := m_Gr_placeOf) (avs := [(0, b), (0, k)]) (st := [(0, (9 * s + j)), (2, 75)]) d_Gr_joinNeighbours_85 l_Gr_27 k_Gr_placeOf rfl rfl rfl rfl (s_Gr_placeOf m b k) ?_
      show zS zT m_Gr_joinNeighbours (0, 0) 88 [some (2, 75), some (2, t), some (0, s), some (0, j), some (0, (9 * s + j)), some (0, b), some (0, hi), some (0, k)] [(0, (9 * b + k)), (0, (9 * s + j)), (2, 75)] m _
      refine zS_invv (mt' := m_Gr_join) (avs := [(0, (9 * s + j)), (0, (9 * b + k))]) (st := []) d_Gr_joinNeighbours_88 l_Gr_45 k_Gr_join rfl rfl rfl rfl rfl (s_Gr_join m (9 * s + j) (9 * b + k) (inD m0 t) ρ i1.1 hpl (⟨b, k, hb.2.1, hb.2.2, by omega, by omega, rfl⟩ : inD m0 t (9 * b + k)) hmr) (fun r9 m9 hq9 => ?_)
      obtain ⟨rfl, hq1, hq2⟩ := hq9
      show zS zT m_Gr_joinNeighbours (0, 0) 91 [some (2, 75), some (2, t), some (0, s), some (0, j), some (0, (9 * s + j)), some (0, b), some (0, hi), some (0, k)] [] m9 _
      refine zV_iinc (L' := [some (2, 75), some (2, t), some (0, s), some (0, j), some (0, (9 * s + j)), some (0, b), some (0, hi), some (0, (k + 1))]) d_Gr_joinNeighbours_91 (by decide) rfl rfl ?_
      refine zV_goto d_Gr_joinNeighbours_94 ?_
      refine ih _ (by omega) (k + 1) m9 (jnR ρ (9 * s + j) (9 * b + k)) rfl (by omega) ?_
      refine PX_w (PX_jn i1 hpl ⟨b, k, hb.2.1, hb.2.2, by omega, by omega, rfl⟩ hm (Or.inr ⟨s, j, b, k, hs.1, hs.2, hse, hj.1, hj.2, hb.1, hb.2.1, hb.2.2, by omega, by omega, rfl, rfl⟩) hq1 hq2) ?_
      intro y hy
      rcases hy with hy | ⟨k9, e1, e2, e3⟩
      · exact Or.inl (Or.inl hy)
      · by_cases e4 : k9 = k
        · exact Or.inr (by rw [e3, e4])
        · exact Or.inl (Or.inr ⟨k9, e1, by omega, e3⟩)
theorem s_Gr_jn_b (m0 : zMem) (t s j : Int) (h : isSt t) (hT0 : okT m0 t) (hB : hbX m0 t) (hs : 0 ≤ s ∧ s < m0 t 2) (hj : 0 ≤ j ∧ j ≤ m0 (t + 2) s) (ρ0 : Int → Int) (hm : ρ0 (9 * s + j) ≠ -1) (hse : s % 2 = 0) (b : Int) (hb : b = s - 1 ∨ b = s + 1) (Dn : Int → Prop) (Q9 : zQ2) (m : zMem) (ρ : Int → Int) (hp : PX (inD m0 t) (edX m0 t) ρ0 m0 (9 * s + j) Dn m ρ) (kk : ∀ m ρ, PX (inD m0 t) (edX m0 t) ρ0 m0 (9 * s + j) (fun y => Dn y ∨ ∃ k, (0 ≤ b ∧ b < m0 t 2) ∧ lwB m0 t s j b ≤ k ∧ k ≤ hiB m0 t s j b ∧ y = 9 * b + k) m ρ → zS zT m_Gr_joinNeighbours (0, 0) 97 [some (2, 75), some (2, t), some (0, s), some (0, j), some (0, 9 * s + j), some (0, b), none, none] [] m (zQs Q9)) : zS zT m_Gr_joinNeighbours (0, 0) 34 [some (2, 75), some (2, t), some (0, s), some (0, j), some (0, (9 * s + j)), some (0, b), none, none] [] m (zQs Q9) := by
  obtain ⟨t1, t2, t3, t4, t5, t6⟩ := id hT0
  have hT := okT_fr hp.2.2.1 h hT0
  have e2 : m t 2 = m0 t 2 := by rw [(fr_t hp.2.2.1 h).1]
  have f0 := t4 s hs.1 (by omega)
  have f1 := fun z => lwB_r (s := s) (j := j) (b := b) hT z
  have f2 := fun z => hiB_r (s := s) (j := j) (b := b) hT z
  refine zV_iload d_Gr_joinNeighbours_34 rfl ?_
  refine zV_iload_n d_Gr_joinNeighbours_36 rfl ?_
  refine zV_iconst d_Gr_joinNeighbours_37 ?_
  refine zV_iadd d_Gr_joinNeighbours_38 ?_
  refine zV_icmp_gt d_Gr_joinNeighbours_39 (by omega) (by omega) (fun c39 => absurd c39 (by omega)) (fun c39 => ?_)
  refine zV_aload_n d_Gr_joinNeighbours_42 rfl ?_
  refine zV_iload d_Gr_joinNeighbours_43 rfl ?_
  refine zS_invvE (mt' := m_St_has) (avs := [(0, b)]) (st := []) d_Gr_joinNeighbours_45 l_Gr_49 k_St_has (kSt0 h) rfl rfl rfl rfl (s_St_has m t b h (by omega) (by omega)) ?_
  show zS zT m_Gr_joinNeighbours (0, 0) 48 [some (2, 75), some (2, t), some (0, s), some (0, j), some (0, (9 * s + j)), some (0, b), none, none] [(0, (zb (0 ≤ b ∧ b < m t 2)))] m _
  refine zV_ifb_eq d_Gr_joinNeighbours_48 (fun c48 => ?_) (fun c48 => ?_)
  · exact kk m ρ (PX_w hp (fun y hy => by rcases hy with hy | ⟨k9, e0, _⟩; exact hy; exfalso; omega))
  · refine zV_aload_n d_Gr_joinNeighbours_51 rfl ?_
    refine zV_iload_n d_Gr_joinNeighbours_52 rfl ?_
    refine zV_iload_n d_Gr_joinNeighbours_53 rfl ?_
    refine zV_iload d_Gr_joinNeighbours_54 rfl ?_
    refine zS_invvE (mt' := m_St_highestBeside) (avs := [(0, s), (0, j), (0, b)]) (st := []) d_Gr_joinNeighbours_56 l_Gr_53 k_St_highestBeside (kSt0 h) rfl rfl rfl rfl (s_St_highestBeside m t s j b h hT (by omega) (by omega) (by omega)) ?_
    show zS zT m_Gr_joinNeighbours (0, 0) 59 [some (2, 75), some (2, t), some (0, s), some (0, j), some (0, (9 * s + j)), some (0, b), none, none] [(0, (hiB m t s j b))] m _
    refine zV_istore (L' := [some (2, 75), some (2, t), some (0, s), some (0, j), some (0, (9 * s + j)), some (0, b), some (0, (hiB m t s j b)), none]) d_Gr_joinNeighbours_59 (by decide) rfl ?_
    refine zV_aload_n d_Gr_joinNeighbours_61 rfl ?_
    refine zV_iload_n d_Gr_joinNeighbours_62 rfl ?_
    refine zV_iload_n d_Gr_joinNeighbours_63 rfl ?_
    refine zV_iload d_Gr_joinNeighbours_64 rfl ?_
    refine zS_invvE (mt' := m_St_lowestBeside) (avs := [(0, s), (0, j), (0, b)]) (st := []) d_Gr_joinNeighbours_66 l_Gr_57 k_St_lowestBeside (kSt0 h) rfl rfl rfl rfl (s_St_lowestBeside m t s j b h hT (by omega) (by omega) (by omega)) ?_
    show zS zT m_Gr_joinNeighbours (0, 0) 69 [some (2, 75), some (2, t), some (0, s), some (0, j), some (0, (9 * s + j)), some (0, b), some (0, (hiB m t s j b)), none] [(0, (lwB m t s j b))] m _
    refine zV_istore (L' := [some (2, 75), some (2, t), some (0, s), some (0, j), some (0, (9 * s + j)), some (0, b), some (0, (hiB m t s j b)), some (0, (lwB m t s j b))]) d_Gr_joinNeighbours_69 (by decide) rfl ?_
    exact s_Gr_jn_l m0 t s j h hT0 hB hs hj ρ0 hm b _ _ hse ⟨hb, c48.1, by omega⟩ (lwB_fr hp.2.2.1 h s j b) (hiB_fr hp.2.2.1 h s j b) Dn Q9 (fun m' ρ' hp' => kk m' ρ' (PX_w hp' (fun y hy => by rcases hy with hy | ⟨k9, _, e1, e2, e3⟩; exact Or.inl hy; exact Or.inr ⟨k9, by rw [lwB_fr hp.2.2.1 h]; exact e1, by rw [hiB_fr hp.2.2.1 h]; exact e2, e3⟩))) _ m ρ (by omega) (PX_w hp (fun y hy => by rcases hy with hy | ⟨k9, e1, e2, _⟩; exact hy; exfalso; omega))
theorem s_Gr_jn_971 (m : zMem) (t s j : Int) (hs : 0 ≤ s ∧ s < 25) (Q9 : zQ2) (kk : zS zT m_Gr_joinNeighbours (0, 0) 34 [some (2, 75), some (2, t), some (0, s), some (0, j), some (0, 9 * s + j), some (0, (s + 1)), none, none] [] m (zQs Q9)) : zS zT m_Gr_joinNeighbours (0, 0) 97 [some (2, 75), some (2, t), some (0, s), some (0, j), some (0, (9 * s + j)), some (0, (s - 1)), none, none] [] m (zQs Q9) := by
  have e9 : (s + 1) = (s - 1) + 2 := by omega
  refine zV_iinc (L' := [some (2, 75), some (2, t), some (0, s), some (0, j), some (0, (9 * s + j)), some (0, ((s - 1) + 2)), none, none]) d_Gr_joinNeighbours_97 (by decide) rfl rfl ?_
  refine zV_goto d_Gr_joinNeighbours_100 ?_
  exact e9 ▸ kk
theorem s_Gr_jn_972 (m : zMem) (t s j : Int) (hs : 0 ≤ s ∧ s < 25) (Q9 : zQ2) (kk : zS zT m_Gr_joinNeighbours (0, 0) 34 [some (2, 75), some (2, t), some (0, s), some (0, j), some (0, 9 * s + j), some (0, (s + 3)), none, none] [] m (zQs Q9)) : zS zT m_Gr_joinNeighbours (0, 0) 97 [some (2, 75), some (2, t), some (0, s), some (0, j), some (0, (9 * s + j)), some (0, (s + 1)), none, none] [] m (zQs Q9) := by
  have e9 : (s + 3) = (s + 1) + 2 := by omega
  refine zV_iinc (L' := [some (2, 75), some (2, t), some (0, s), some (0, j), some (0, (9 * s + j)), some (0, ((s + 1) + 2)), none, none]) d_Gr_joinNeighbours_97 (by decide) rfl rfl ?_
  refine zV_goto d_Gr_joinNeighbours_100 ?_
  exact e9 ▸ kk
theorem s_Gr_jn_34 (m : zMem) (t s j : Int) (hs : 0 ≤ s ∧ s < 25) (Q9 : zQ2) (hq : Q9 none m) : zS zT m_Gr_joinNeighbours (0, 0) 34 [some (2, 75), some (2, t), some (0, s), some (0, j), some (0, (9 * s + j)), some (0, (s + 3)), none, none] [] m (zQs Q9) := by
  refine zV_iload d_Gr_joinNeighbours_34 rfl ?_
  refine zV_iload_n d_Gr_joinNeighbours_36 rfl ?_
  refine zV_iconst d_Gr_joinNeighbours_37 ?_
  refine zV_iadd d_Gr_joinNeighbours_38 ?_
  refine zV_icmp_gt d_Gr_joinNeighbours_39 (by omega) (by omega) (fun c39 => ?_) (fun c39 => absurd c39 (by omega))
  exact zS_vret d_Gr_joinNeighbours_103 rfl ⟨Nat.zero_le _, Nat.zero_le _⟩ hq
theorem ed_pl {mem : zMem} {t s j : Int} (hT : okT mem t) (hs : 0 ≤ s ∧ s < mem t 2) (hj : 0 ≤ j ∧ j ≤ mem (t + 2) s) {y : Int} (h : edX mem t (9 * s + j) y) : (0 < j ∧ y = 9 * s + j - 1) ∨ (s % 2 = 0 ∧ ∃ b k, (b = s - 1 ∨ b = s + 1) ∧ (0 ≤ b ∧ b < mem t 2) ∧ lwB mem t s j b ≤ k ∧ k ≤ hiB mem t s j b ∧ y = 9 * b + k) := by
  obtain ⟨t1, t2, t3, t4, t5, t6⟩ := hT
  have f0 := t4 s hs.1 (by omega)
  rcases h with ⟨s', j', a1, a2, a3, a4, a5, a6⟩ | ⟨s', j', b, k, a1, a2, a3, a4, a5, a6, a7, a8, a9, b1, b2, b3⟩
  · have f9 := t4 s' a1 (by omega)
    exact Or.inl ⟨by omega, by omega⟩
  · have f9 := t4 s' a1 (by omega)
    have e1 : s' = s := by omega
    subst e1
    have e2 : j' = j := by omega
    subst e2
    exact Or.inr ⟨a3, b, k, a6, ⟨a7, a8⟩, a9, b1, b3⟩
theorem s_Gr_joinNeighbours (mem : zMem) (t s j : Int) (h : isSt t) (hT : okT mem t) (hB : hbX mem t) (hs : 0 ≤ s ∧ s < mem t 2) (hj : 0 ≤ j ∧ j ≤ mem (t + 2) s) (ρ : Int → Int) (hX : GX (inD mem t) mem ρ) (hm : ρ (9 * s + j) ≠ -1) : zF m_Gr_joinNeighbours [(2, 75), (2, t), (0, s), (0, j)] mem (fun r m => r = none ∧ ∃ ρ1, PX (inD mem t) (edX mem t) ρ mem (9 * s + j) (fun y => edX mem t (9 * s + j) y) m ρ1) := by
  obtain ⟨t1, t2, t3, t4, t5, t6⟩ := id hT
  have f0 := t4 s hs.1 (by omega)
  have hpl : inD mem t (9 * s + j) := ⟨s, j, hs.1, hs.2, hj.1, hj.2, rfl⟩
  have hp1 : 0 < j → inD mem t (9 * s + j - 1) := fun q => ⟨s, j - 1, hs.1, hs.2, by omega, by omega, by omega⟩
  have hE1 : 0 < j → edX mem t (9 * s + j) (9 * s + j - 1) := fun q => Or.inl ⟨s, j, hs.1, hs.2, q, hj.2, rfl, rfl⟩
  have hp0 : PX (inD mem t) (edX mem t) ρ mem (9 * s + j) (fun _ => False) mem ρ := ⟨hX, ExG_rf _ _ _, fun _ _ _ => rfl, fun _ q => q.elim⟩
  refine zF_of (by decide) (Nat.le_of_ble_eq_true rfl) ?_
  show zS zT m_Gr_joinNeighbours (0, 0) 0 [some (2, 75), some (2, t), some (0, s), some (0, j), none, none, none, none] [] mem _
  refine zV_iload_n d_Gr_joinNeighbours_0 rfl ?_
  refine zV_iload_n d_Gr_joinNeighbours_1 rfl ?_
  refine zS_invsE (mt' := m_Gr_placeOf) (avs := [(0, s), (0, j)]) (st := []) d_Gr_joinNeighbours_2 l_Gr_27 k_Gr_placeOf rfl rfl rfl rfl (s_Gr_placeOf mem s j) ?_
  show zS zT m_Gr_joinNeighbours (0, 0) 5 [some (2, 75), some (2, t), some (0, s), some (0, j), none, none, none, none] [(0, (9 * s + j))] mem _
  refine zV_istore (L' := [some (2, 75), some (2, t), some (0, s), some (0, j), some (0, (9 * s + j)), none, none, none]) d_Gr_joinNeighbours_5 (by decide) rfl ?_
  refine zV_iload_n d_Gr_joinNeighbours_7 rfl ?_
  refine zV_if_le d_Gr_joinNeighbours_8 (by omega) (fun c8 => ?_) (fun c8 => ?_)
  · refine zV_iload_n d_Gr_joinNeighbours_21 rfl ?_
    refine zV_iconst d_Gr_joinNeighbours_22 ?_
    refine zV_irem_p d_Gr_joinNeighbours_23 (by omega) (by omega) ?_
    refine zV_iconst d_Gr_joinNeighbours_24 ?_
    refine zV_icmp_ne d_Gr_joinNeighbours_25 (by omega) (by omega) (fun c25 => ?_) (fun c25 => ?_)
    · refine zV_iload_n d_Gr_joinNeighbours_29 rfl ?_
      refine zV_iconst d_Gr_joinNeighbours_30 ?_
      refine zV_isub d_Gr_joinNeighbours_31 ?_
      refine zV_istore (L' := [some (2, 75), some (2, t), some (0, s), some (0, j), some (0, (9 * s + j)), some (0, (s - 1)), none, none]) d_Gr_joinNeighbours_32 (by decide) rfl ?_
      refine s_Gr_jn_b mem t s j h hT hB hs hj ρ hm (by omega) (s - 1) (Or.inl rfl) (fun z => 0 < j ∧ z = 9 * s + j - 1) _ _ _ (PX_w (Dn' := (fun z => 0 < j ∧ z = 9 * s + j - 1)) hp0 (fun z hz => by exfalso; omega)) (fun m1 ρ1 p1 => ?_)
      refine s_Gr_jn_971 m1 t s j (by omega) _ ?_
      refine s_Gr_jn_b mem t s j h hT hB hs hj ρ hm (by omega) (s + 1) (Or.inr rfl) _ _ _ _ p1 (fun m2 ρ2 p2 => ?_)
      refine s_Gr_jn_972 m2 t s j (by omega) _ (s_Gr_jn_34 m2 t s j (by omega) _ ⟨rfl, ρ2, PX_w p2 (fun y hy => ?_)⟩)
      rcases ed_pl hT hs hj hy with z | ⟨_, b, k, hb, z1, z2, z3, z4⟩
      · exact Or.inl (Or.inl z)
      · rcases hb with rfl | rfl
        · exact Or.inl (Or.inr ⟨k, z1, z2, z3, z4⟩)
        · exact Or.inr ⟨k, z1, z2, z3, z4⟩
    · exact zS_vret d_Gr_joinNeighbours_28 rfl ⟨Nat.zero_le _, Nat.zero_le _⟩ ⟨rfl, _, PX_w (PX_w (Dn' := (fun z => 0 < j ∧ z = 9 * s + j - 1)) hp0 (fun z hz => by exfalso; omega)) (fun y hy => by rcases ed_pl hT hs hj hy with z | ⟨z, _⟩; exact z; exfalso; omega)⟩
  · refine zV_aload_n d_Gr_joinNeighbours_11 rfl ?_
    refine zV_iload d_Gr_joinNeighbours_12 rfl ?_
    refine zV_iload d_Gr_joinNeighbours_14 rfl ?_
    refine zV_iconst d_Gr_joinNeighbours_16 ?_
    refine zV_isub d_Gr_joinNeighbours_17 ?_
    refine zS_invv (mt' := m_Gr_join) (avs := [(0, (9 * s + j)), (0, ((9 * s + j) - 1))]) (st := []) d_Gr_joinNeighbours_18 l_Gr_45 k_Gr_join rfl rfl rfl rfl rfl (s_Gr_join mem (9 * s + j) ((9 * s + j) - 1) (inD mem t) ρ hX hpl (hp1 (by omega)) hm) (fun r9 m9 hq9 => ?_)
    obtain ⟨rfl, hq1, hq2⟩ := hq9
    show zS zT m_Gr_joinNeighbours (0, 0) 21 [some (2, 75), some (2, t), some (0, s), some (0, j), some (0, (9 * s + j)), none, none, none] [] m9 _
    refine zV_iload_n d_Gr_joinNeighbours_21 rfl ?_
    refine zV_iconst d_Gr_joinNeighbours_22 ?_
    refine zV_irem_p d_Gr_joinNeighbours_23 (by omega) (by omega) ?_
    refine zV_iconst d_Gr_joinNeighbours_24 ?_
    refine zV_icmp_ne d_Gr_joinNeighbours_25 (by omega) (by omega) (fun c25 => ?_) (fun c25 => ?_)
    · refine zV_iload_n d_Gr_joinNeighbours_29 rfl ?_
      refine zV_iconst d_Gr_joinNeighbours_30 ?_
      refine zV_isub d_Gr_joinNeighbours_31 ?_
      refine zV_istore (L' := [some (2, 75), some (2, t), some (0, s), some (0, j), some (0, (9 * s + j)), some (0, (s - 1)), none, none]) d_Gr_joinNeighbours_32 (by decide) rfl ?_
      refine s_Gr_jn_b mem t s j h hT hB hs hj ρ hm (by omega) (s - 1) (Or.inl rfl) (fun z => 0 < j ∧ z = 9 * s + j - 1) _ _ _ (PX_w (Dn' := (fun z => 0 < j ∧ z = 9 * s + j - 1)) (PX_jn hp0 hpl (hp1 (by omega)) hm (hE1 (by omega)) hq1 hq2) (fun z hz => Or.inr hz.2)) (fun m1 ρ1 p1 => ?_)
      refine s_Gr_jn_971 m1 t s j (by omega) _ ?_
      refine s_Gr_jn_b mem t s j h hT hB hs hj ρ hm (by omega) (s + 1) (Or.inr rfl) _ _ _ _ p1 (fun m2 ρ2 p2 => ?_)
      refine s_Gr_jn_972 m2 t s j (by omega) _ (s_Gr_jn_34 m2 t s j (by omega) _ ⟨rfl, ρ2, PX_w p2 (fun y hy => ?_)⟩)
      rcases ed_pl hT hs hj hy with z | ⟨_, b, k, hb, z1, z2, z3, z4⟩
      · exact Or.inl (Or.inl z)
      · rcases hb with rfl | rfl
        · exact Or.inl (Or.inr ⟨k, z1, z2, z3, z4⟩)
        · exact Or.inr ⟨k, z1, z2, z3, z4⟩
    · exact zS_vret d_Gr_joinNeighbours_28 rfl ⟨Nat.zero_le _, Nat.zero_le _⟩ ⟨rfl, _, PX_w (PX_w (Dn' := (fun z => 0 < j ∧ z = 9 * s + j - 1)) (PX_jn hp0 hpl (hp1 (by omega)) hm (hE1 (by omega)) hq1 hq2) (fun z hz => Or.inr hz.2)) (fun y hy => by rcases ed_pl hT hs hj hy with z | ⟨z, _⟩; exact z; exfalso; omega)⟩
