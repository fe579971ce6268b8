/-! groups: the number of pieces -/
theorem zsm_0 {f : Int → Int} (h : ∀ x, f x = 0) : ∀ (k : Nat) (i : Int), zsm f k i = 0
  | 0, _ => rfl
  | k + 1, i => by unfold zsm; rw [h, zsm_0 h k (i + 1)]; rfl
theorem inD_fr {m0 m : zMem} {t : Int} (h : frG m0 m) (ht : isSt t) : inD m t = inD m0 t := by
  obtain ⟨e1, e2, e3, e4, _⟩ := fr_t h ht
  funext x
  unfold inD
  rw [e1, e2]
theorem edX_fr {m0 m : zMem} {t : Int} (h : frG m0 m) (ht : isSt t) : edX m t = edX m0 t := by
  obtain ⟨e1, e2, e3, e4, _⟩ := fr_t h ht
  funext x y
  unfold edX lwB hiB scB
  rw [e1, e2, e3, e4]
theorem hbX_fr {m0 m : zMem} {t : Int} (h : frG m0 m) (ht : isSt t) (hB : hbX m0 t) : hbX m t := by
  obtain ⟨e1, e2, e3, e4, _⟩ := fr_t h ht
  unfold hbX hiB scB
  unfold hbX hiB scB at hB
  rw [e1, e2, e3, e4]
  exact hB
theorem okFo_fr {m0 m : zMem} (h : frG m0 m) (hF : okFo m0) : okFo m := by
  unfold okFo
  rw [h 73 (by decide) (by decide), h 74 (by decide) (by decide)]
  exact hF
noncomputable def rS (mem : zMem) (t x : Int) : Int := cif (hdX mem t (x / 9) (x % 9)) x (-1)
def inP (mem : zMem) (t a b x : Int) : Prop := ∃ s j, 0 ≤ s ∧ s < mem t 2 ∧ 0 ≤ j ∧ j ≤ mem (t + 2) s ∧ x = 9 * s + j ∧ (s < a ∨ s = a ∧ j < b)
def BG (mem : zMem) (t a b : Int) (m : zMem) : Prop := frG mem m ∧ (∀ x, inP mem t a b x → m 76 x = rS mem t x) ∧ m 75 1 = cntR (inP mem t a b) (rS mem t)
theorem inP_nx {mem : zMem} {t a b : Int} (hT : okT mem t) (ha : 0 ≤ a ∧ a < mem t 2) (hb : 0 ≤ b ∧ b ≤ mem (t + 2) a) (x : Int) : inP mem t a (b + 1) x ↔ (inP mem t a b x ∨ x = 9 * a + b) := by
  constructor
  · rintro ⟨s, j, a1, a2, a3, a4, a5, a6⟩
    by_cases e : s = a ∧ j = b
    · right; omega
    · left; exact ⟨s, j, a1, a2, a3, a4, a5, by omega⟩
  · rintro (⟨s, j, a1, a2, a3, a4, a5, a6⟩ | e)
    · exact ⟨s, j, a1, a2, a3, a4, a5, by omega⟩
    · exact ⟨a, b, ha.1, ha.2, hb.1, hb.2, e, by omega⟩
theorem inP_no {mem : zMem} {t a b : Int} (hT : okT mem t) (ha : 0 ≤ a ∧ a < mem t 2) (hb : 0 ≤ b ∧ b ≤ mem (t + 2) a) : ¬ inP mem t a b (9 * a + b) := by
  rintro ⟨s, j, a1, a2, a3, a4, a5, a6⟩
  obtain ⟨t1, t2, t3, t4, t5, t6⟩ := hT
  have f0 := t4 s a1 (by omega)
  have f1 := t4 a ha.1 (by omega)
  omega
theorem inP_up {mem : zMem} {t a b : Int} (ha : 0 ≤ a ∧ a < mem t 2) (hb : mem (t + 2) a < b) : inP mem t a b = inP mem t (a + 1) 0 := by
  funext x
  apply propext
  constructor
  · rintro ⟨s, j, a1, a2, a3, a4, a5, a6⟩
    exact ⟨s, j, a1, a2, a3, a4, a5, by omega⟩
  · rintro ⟨s, j, a1, a2, a3, a4, a5, a6⟩
    refine ⟨s, j, a1, a2, a3, a4, a5, ?_⟩
    by_cases e : s = a
    · subst e; right; exact ⟨rfl, by omega⟩
    · left; omega
theorem inP_all {mem : zMem} {t a : Int} (ha : mem t 2 ≤ a) : inP mem t a 0 = inD mem t := by
  funext x
  apply propext
  constructor
  · rintro ⟨s, j, a1, a2, a3, a4, a5, a6⟩
    exact ⟨s, j, a1, a2, a3, a4, a5⟩
  · rintro ⟨s, j, a1, a2, a3, a4, a5⟩
    exact ⟨s, j, a1, a2, a3, a4, a5, by omega⟩
theorem inP_0 {mem : zMem} {t x : Int} : ¬ inP mem t 0 0 x := by
  rintro ⟨s, j, a1, a2, a3, a4, a5, a6⟩
  omega
theorem rS_e {mem : zMem} {t a b : Int} (hb : 0 ≤ b ∧ b ≤ 8) : rS mem t (9 * a + b) = cif (hdX mem t a b) (9 * a + b) (-1) := by
  unfold rS
  rw [show (9 * a + b) / 9 = a by omega, show (9 * a + b) % 9 = b by omega]
theorem BG_b {mem : zMem} {t a b : Int} {m : zMem} (hT : okT mem t) (ha : 0 ≤ a ∧ a < mem t 2) (hb : 0 ≤ b ∧ b ≤ mem (t + 2) a) (h : BG mem t a b m) : BG mem t a (b + 1) (bgG m (9 * a + b) (zb (hdX mem t a b))) := by
  obtain ⟨h1, h2, h3⟩ := h
  have hno := inP_no hT ha hb
  have hnx := inP_nx hT ha hb
  obtain ⟨t1, t2, t3, t4, t5, t6⟩ := hT
  have f1 := t4 a ha.1 (by omega)
  have hr := rS_e (mem := mem) (t := t) (a := a) (b := b) (by omega)
  have hc : cntR (inP mem t a (b + 1)) (rS mem t) = cntR (inP mem t a b) (rS mem t) + zb (rS mem t (9 * a + b) = 9 * a + b) := by
    unfold cntR
    rw [zsm_one (f := fun x => zb (inP mem t a (b + 1) x ∧ rS mem t x = x)) (g := fun x => zb (inP mem t a b x ∧ rS mem t x = x)) (M := 9 * a + b) 225 0 ?_, if_pos (by omega)]
    · show _ + (zb _ - zb _) = _
      rw [zb_f (show ¬ (inP mem t a b (9 * a + b) ∧ rS mem t (9 * a + b) = 9 * a + b) from fun z => hno z.1), zb_iff (show (inP mem t a (b + 1) (9 * a + b) ∧ rS mem t (9 * a + b) = 9 * a + b) ↔ (rS mem t (9 * a + b) = 9 * a + b) from ⟨fun z => z.2, fun z => ⟨(hnx _).mpr (Or.inr rfl), z⟩⟩)]
      omega
    · intro x hx
      show zb _ = zb _
      apply zb_iff
      rw [hnx]
      exact ⟨fun z => ⟨z.1.resolve_right hx, z.2⟩, fun z => ⟨Or.inl z.1, z.2⟩⟩
  unfold bgG
  by_cases hh : hdX mem t a b
  · rw [cif_t hh] at hr
    rw [hr, zb_t rfl] at hc
    rw [zb_t hh, cif_f (by decide)]
    refine ⟨fun x q1 q2 => by rw [zup_a q1, zup_a q2]; exact h1 x q1 q2, fun x hx => ?_, by rw [zup_s, hc, h3]⟩
    rw [zup_a (show (76 : Int) ≠ 75 by decide), zup_f]
    by_cases e : x = 9 * a + b
    · rw [e, uf_s, hr]
    · rw [uf_n e]; exact h2 x (((hnx x).mp hx).resolve_right e)
  · rw [cif_f hh] at hr
    rw [hr, zb_f (by omega)] at hc
    rw [zb_f hh, cif_t rfl]
    refine ⟨fun x q1 q2 => by rw [zup_a q2]; exact h1 x q1 q2, fun x hx => ?_, by rw [zup_a (show (75 : Int) ≠ 76 by decide), hc, h3, Int.add_zero]⟩
    rw [zup_f]
    by_cases e : x = 9 * a + b
    · rw [e, uf_s, hr]
    · rw [uf_n e]; exact h2 x (((hnx x).mp hx).resolve_right e)
theorem BG_GX {mem : zMem} {t a : Int} {m : zMem} (hT : okT mem t) (ha : mem t 2 ≤ a) (h : BG mem t a 0 m) : GX (inD mem t) m (rS mem t) := by
  obtain ⟨h1, h2, h3⟩ := h
  rw [inP_all ha] at h2 h3
  refine ⟨fun x hx => ?_, h3⟩
  have e := h2 x hx
  have hx' := hx
  obtain ⟨s, j, a1, a2, a3, a4, a5⟩ := hx
  obtain ⟨t1, t2, t3, t4, t5, t6⟩ := hT
  have f1 := t4 s a1 (by omega)
  refine ⟨by omega, ?_⟩
  rw [e]
  by_cases hh : hdX mem t (x / 9) (x % 9)
  · have hr : rS mem t x = x := by unfold rS; rw [cif_t hh]
    right
    rw [hr, hr]
    exact ⟨by omega, by omega, hx', rfl, by omega, by omega, hx', e.trans hr, rfl, fun _ => rfl⟩
  · have hr : rS mem t x = -1 := by unfold rS; rw [cif_f hh]
    exact Or.inl ⟨hr, hr⟩
/-- what the second pass keeps: the roots so far, joined along every edge out of the cells that were gone through -/
def PH (mem : zMem) (t a b : Int) (m : zMem) (ρ : Int → Int) : Prop := GX (inD mem t) m ρ ∧ ExG (inD mem t) (edX mem t) (rS mem t) ρ ∧ frG mem m ∧ ∀ x y, inP mem t a b x → inD mem t y → rS mem t x ≠ -1 → rS mem t y ≠ -1 → edX mem t x y → ρ x = ρ y
theorem PH_sk {mem : zMem} {t a b : Int} {m : zMem} {ρ : Int → Int} (hT : okT mem t) (ha : 0 ≤ a ∧ a < mem t 2) (hb : 0 ≤ b ∧ b ≤ mem (t + 2) a) (h : PH mem t a b m ρ) (hm : rS mem t (9 * a + b) = -1) : PH mem t a (b + 1) m ρ := by
  obtain ⟨h1, h2, h3, h4⟩ := h
  refine ⟨h1, h2, h3, fun x y hx hy hxm hym he => ?_⟩
  rcases (inP_nx hT ha hb x).mp hx with z | rfl
  · exact h4 x y z hy hxm hym he
  · exact absurd hm hxm
theorem PH_jn {mem : zMem} {t a b : Int} {m m2 : zMem} {ρ ρ2 : Int → Int} (ht : isSt t) (hT : okT mem t) (ha : 0 ≤ a ∧ a < mem t 2) (hb : 0 ≤ b ∧ b ≤ mem (t + 2) a) (h : PH mem t a b m ρ) (hp : PX (inD m t) (edX m t) ρ m (9 * a + b) (fun y => edX m t (9 * a + b) y) m2 ρ2) : PH mem t a (b + 1) m2 ρ2 := by
  obtain ⟨h1, h2, h3, h4⟩ := h
  rw [inD_fr h3 ht, edX_fr h3 ht] at hp
  obtain ⟨p1, p2, p3, p4⟩ := hp
  have hD : ∀ x, inP mem t a b x → inD mem t x := fun x hx => by
    obtain ⟨s, j, a1, a2, a3, a4, a5, _⟩ := hx
    exact ⟨s, j, a1, a2, a3, a4, a5⟩
  refine ⟨p1, ExG_tr h2 p2, fun x q1 q2 => (p3 x q1 q2).trans (h3 x q1 q2), fun x y hx hy hxm hym he => ?_⟩
  rcases (inP_nx hT ha hb x).mp hx with z | rfl
  · exact p2.2.1 x y (hD x z) hy (h4 x y z hy hxm hym he)
  · exact p4 y he hy (fun q => hym ((h2.1 y hy).mp q))
/-- the number of pieces, and the roots that witness it -/
def NM (mem : zMem) (t : Int) (m : zMem) (n : Int) : Prop := frG mem m ∧ ∃ ρ, n = cntR (inD mem t) ρ ∧ GR (m 76) (inD mem t) ρ ∧ ExG (inD mem t) (edX mem t) (rS mem t) ρ ∧ ∀ x y, inD mem t x → inD mem t y → rS mem t x ≠ -1 → rS mem t y ≠ -1 → edX mem t x y → ρ x = ρ y
theorem PH_end {mem : zMem} {t a : Int} {m : zMem} {ρ : Int → Int} (ha : mem t 2 ≤ a) (h : PH mem t a 0 m ρ) : NM mem t m (m 75 1) := by
  obtain ⟨h1, h2, h3, h4⟩ := h
  rw [inP_all ha] at h4
  exact ⟨h3, ρ, h1.2, h1.1, h2, h4⟩
theorem s_Gr_number_72 (mem : zMem) (t : Int) (h : isSt t) (hT0 : okT mem t) (hF0 : okFo mem) (hB : hbX mem t) (a : Int) (ha : 0 ≤ a ∧ a < mem t 2) (kk : ∀ m ρ, PH mem t (a + 1) 0 m ρ → zS zT m_Gr_number (0, 0) 112 [some (2, 75), some (2, t), some (2, 73), some (0, a), none] [] m (zQs (fun r m => ∃ n, r = some (0, n) ∧ NM mem t m n))) : ∀ (b : Int) (m : zMem) (ρ : Int → Int), (0 ≤ b ∧ b ≤ mem (t + 2) a + 1) → (PH mem t a b m ρ) → zS zT m_Gr_number (0, 0) 72 [some (2, 75), some (2, t), some (2, 73), some (0, a), some (0, b)] [] m (zQs (fun r m => ∃ n, r = some (0, n) ∧ NM mem t m n)) := by
  intro b m ρ
  obtain ⟨k9, hk9⟩ : ∃ kq : Nat, (mem (t + 2) a + 1 - b).toNat = kq := ⟨_, rfl⟩
  induction k9 using Nat.strongRecOn generalizing b m ρ with
  | _ k9 ih =>
    intro i0 i1
    obtain ⟨t1, t2, t3, t4, t5, t6⟩ := id hT0
    have f1 := t4 a ha.1 (by omega)
    have hfr := i1.2.2.1
    have hT := okT_fr hfr h hT0
    have e1 : m t 2 = mem t 2 := by rw [(fr_t hfr h).1]
    have e2 : m (t + 2) = mem (t + 2) := (fr_t hfr h).2.1
    have e3 : ∀ q, m (t + 2) q = mem (t + 2) q := fun q => by rw [e2]
    have e4 := e3 a
    have hin : b ≤ mem (t + 2) a → inD mem t (9 * a + b) := fun q => ⟨a, b, ha.1, ha.2, i0.1, q, rfl⟩
    have h76 : b ≤ mem (t + 2) a → -1 ≤ m 76 (9 * a + b) ∧ m 76 (9 * a + b) ≤ 225 := fun q2 => by rcases (i1.1.1 _ (hin q2)).2 with z | z <;> omega
    have hmr : m 76 (9 * a + b) ≠ -1 → b ≤ mem (t + 2) a → ρ (9 * a + b) ≠ -1 := fun q1 q2 => by rcases (i1.1.1 _ (hin q2)).2 with z | z <;> omega
    refine zV_iload d_Gr_number_72 rfl ?_
    refine zV_aload_n d_Gr_number_74 rfl ?_
    refine zS_getr (r := (t + 2)) d_Gr_number_75 f_Gr_24 (kSt0 h) rfl rfl ?_
    refine zV_iload_n d_Gr_number_78 rfl ?_
    refine zS_iald d_Gr_number_79 (kSt2 h) rfl ⟨by omega, by omega⟩ ?_
    refine zV_icmp_gt d_Gr_number_80 (by omega) (by omega) (fun c80 => ?_) (fun c80 => ?_)
    · refine zV_forget (L' := [some (2, 75), some (2, t), some (2, 73), some (0, a), none]) (by simp [zle]) ?_
      refine kk m ρ ?_
      have e9 := inP_up (mem := mem) (t := t) (b := b) ha (by omega)
      unfold PH at i1 ⊢
      rw [← e9]
      exact i1
    · refine zV_aload_n d_Gr_number_83 rfl ?_
      refine zS_getr (r := 76) d_Gr_number_84 f_Gr_9 rfl rfl rfl ?_
      refine zV_iload_n d_Gr_number_87 rfl ?_
      refine zV_iload d_Gr_number_88 rfl ?_
      refine zS_invsE (mt' := m_Gr_placeOf) (avs := [(0, a), (0, b)]) (st := [(2, 76)]) d_Gr_number_90 l_Gr_27 k_Gr_placeOf rfl rfl rfl rfl (s_Gr_placeOf m a b) ?_
      show zS zT m_Gr_number (0, 0) 93 [some (2, 75), some (2, t), some (2, 73), some (0, a), some (0, b)] [(0, (9 * a + b)), (2, 76)] m _
      refine zS_iald d_Gr_number_93 rfl rfl ⟨by omega, by omega⟩ ?_
      refine zV_iconst d_Gr_number_94 ?_
      refine zV_icmp_eq d_Gr_number_95 (by omega) (by omega) (fun c95 => ?_) (fun c95 => ?_)
      · refine zV_iinc (L' := [some (2, 75), some (2, t), some (2, 73), some (0, a), some (0, (b + 1))]) d_Gr_number_106 (by decide) rfl rfl ?_
        refine zV_goto d_Gr_number_109 ?_
        refine ih _ (by omega) (b + 1) _ ρ rfl (by omega) ?_
        first | exact PH_jn h hT0 ha ⟨i0.1, by omega⟩ i1 hq1 | exact PH_sk hT0 ha ⟨i0.1, by omega⟩ i1 ((i1.2.1.1 _ (hin (by omega))).mp (by rcases (i1.1.1 _ (hin (by omega))).2 with z | z <;> omega))
      · refine zV_aload_n d_Gr_number_98 rfl ?_
        refine zV_aload_n d_Gr_number_99 rfl ?_
        refine zV_iload_n d_Gr_number_100 rfl ?_
        refine zV_iload d_Gr_number_101 rfl ?_
        refine zS_invv (mt' := m_Gr_joinNeighbours) (avs := [(2, t), (0, a), (0, b)]) (st := []) d_Gr_number_103 l_Gr_41 k_Gr_joinNeighbours rfl rfl rfl rfl rfl (s_Gr_joinNeighbours m t a b h hT (hbX_fr hfr h hB) ⟨ha.1, by omega⟩ ⟨i0.1, by omega⟩ ρ (by rw [inD_fr hfr h]; exact i1.1) (hmr (by omega) (by omega))) (fun r9 m9 hq9 => ?_)
        obtain ⟨rfl, ρ9, hq1⟩ := hq9
        show zS zT m_Gr_number (0, 0) 106 [some (2, 75), some (2, t), some (2, 73), some (0, a), some (0, b)] [] m9 _
        refine zV_iinc (L' := [some (2, 75), some (2, t), some (2, 73), some (0, a), some (0, (b + 1))]) d_Gr_number_106 (by decide) rfl rfl ?_
        refine zV_goto d_Gr_number_109 ?_
        refine ih _ (by omega) (b + 1) _ ρ9 rfl (by omega) ?_
        first | exact PH_jn h hT0 ha ⟨i0.1, by omega⟩ i1 hq1 | exact PH_sk hT0 ha ⟨i0.1, by omega⟩ i1 ((i1.2.1.1 _ (hin (by omega))).mp (by rcases (i1.1.1 _ (hin (by omega))).2 with z | z <;> omega))
theorem s_Gr_number_112 (m : zMem) (t a : Int) (ha : 0 ≤ a ∧ a < 25) (Q9 : zQ2) (kk : zS zT m_Gr_number (0, 0) 61 [some (2, 75), some (2, t), some (2, 73), some (0, a + 1), none] [] m (zQs Q9)) : zS zT m_Gr_number (0, 0) 112 [some (2, 75), some (2, t), some (2, 73), some (0, a), none] [] m (zQs Q9) := by
  refine zV_iinc (L' := [some (2, 75), some (2, t), some (2, 73), some (0, (a + 1)), none]) d_Gr_number_112 (by decide) rfl rfl ?_
  refine zV_goto d_Gr_number_115 ?_
  exact kk
theorem s_Gr_number_61 (mem : zMem) (t : Int) (h : isSt t) (hT0 : okT mem t) (hF0 : okFo mem) (hB : hbX mem t) : ∀ (a : Int) (m : zMem) (ρ : Int → Int), (0 ≤ a ∧ a ≤ mem t 2) → (PH mem t a 0 m ρ) → zS zT m_Gr_number (0, 0) 61 [some (2, 75), some (2, t), some (2, 73), some (0, a), none] [] m (zQs (fun r m => ∃ n, r = some (0, n) ∧ NM mem t m n)) := by
  intro a m ρ
  obtain ⟨k9, hk9⟩ : ∃ kq : Nat, (mem t 2 - a).toNat = kq := ⟨_, rfl⟩
  induction k9 using Nat.strongRecOn generalizing a m ρ with
  | _ k9 ih =>
    intro i0 i1
    obtain ⟨t1, t2, t3, t4, t5, t6⟩ := id hT0
    have hfr := i1.2.2.1
    have hT := okT_fr hfr h hT0
    have e1 : m t 2 = mem t 2 := by rw [(fr_t hfr h).1]
    have e2 : m (t + 2) = mem (t + 2) := (fr_t hfr h).2.1
    have e3 : ∀ q, m (t + 2) q = mem (t + 2) q := fun q => by rw [e2]
    refine zV_iload_n d_Gr_number_61 rfl ?_
    refine zV_aload_n d_Gr_number_62 rfl ?_
    refine zS_get d_Gr_number_63 f_Gr_19 (kSt0 h) rfl ?_
    refine zV_icmp_ge d_Gr_number_66 (by omega) (by omega) (fun c66 => ?_) (fun c66 => ?_)
    · refine zV_aload_n d_Gr_number_118 rfl ?_
      refine zS_get d_Gr_number_119 f_Gr_15 rfl rfl ?_
      exact zS_iret d_Gr_number_122 rfl ⟨Nat.zero_le _, Nat.zero_le _⟩ ⟨_, rfl, PH_end (by omega) i1⟩
    · refine zV_iconst d_Gr_number_69 ?_
      refine zV_istore (L' := [some (2, 75), some (2, t), some (2, 73), some (0, a), some (0, 0)]) d_Gr_number_70 (by decide) rfl ?_
      refine s_Gr_number_72 mem t h hT0 hF0 hB a ⟨i0.1, by omega⟩ (fun m1 ρ1 p1 => ?_) 0 m ρ ⟨by omega, by have := t4 a i0.1 (by omega); omega⟩ i1
      exact s_Gr_number_112 m1 t a (by omega) _ (ih _ (by omega) (a + 1) m1 ρ1 rfl ⟨by omega, by omega⟩ p1)
theorem s_Gr_number_18 (mem : zMem) (t : Int) (h : isSt t) (hT0 : okT mem t) (hF0 : okFo mem) (hB : hbX mem t) (a : Int) (ha : 0 ≤ a ∧ a < mem t 2) (kk : ∀ m, BG mem t (a + 1) 0 m → zS zT m_Gr_number (0, 0) 53 [some (2, 75), some (2, t), some (2, 73), some (0, a), none] [] m (zQs (fun r m => ∃ n, r = some (0, n) ∧ NM mem t m n))) : ∀ (b : Int) (m : zMem), (0 ≤ b ∧ b ≤ mem (t + 2) a + 1) → (BG mem t a b m) → zS zT m_Gr_number (0, 0) 18 [some (2, 75), some (2, t), some (2, 73), some (0, a), some (0, b)] [] m (zQs (fun r m => ∃ n, r = some (0, n) ∧ NM mem t m n)) := by
  intro b m
  obtain ⟨k9, hk9⟩ : ∃ kq : Nat, (mem (t + 2) a + 1 - b).toNat = kq := ⟨_, rfl⟩
  induction k9 using Nat.strongRecOn generalizing b m with
  | _ k9 ih =>
    intro i0 i1
    obtain ⟨t1, t2, t3, t4, t5, t6⟩ := id hT0
    have f1 := t4 a ha.1 (by omega)
    have hfr := i1.1
    have hT := okT_fr hfr h hT0
    have e1 : m t 2 = mem t 2 := by rw [(fr_t hfr h).1]
    have e2 : m (t + 2) = mem (t + 2) := (fr_t hfr h).2.1
    have e3 : ∀ q, m (t + 2) q = mem (t + 2) q := fun q => by rw [e2]
    have e4 := e3 a
    have hh := zb_iff (hdX_fr hfr h a b)
    refine zV_iload d_Gr_number_18 rfl ?_
    refine zV_aload_n d_Gr_number_20 rfl ?_
    refine zS_getr (r := (t + 2)) d_Gr_number_21 f_Gr_24 (kSt0 h) rfl rfl ?_
    refine zV_iload_n d_Gr_number_24 rfl ?_
    refine zS_iald d_Gr_number_25 (kSt2 h) rfl ⟨by omega, by omega⟩ ?_
    refine zV_icmp_gt d_Gr_number_26 (by omega) (by omega) (fun c26 => ?_) (fun c26 => ?_)
    · refine zV_forget (L' := [some (2, 75), some (2, t), some (2, 73), some (0, a), none]) (by simp [zle]) ?_
      refine kk m ?_
      have e9 := inP_up (mem := mem) (t := t) (b := b) ha (by omega)
      unfold BG at i1 ⊢
      rw [← e9]
      exact i1
    · refine zV_aload_n d_Gr_number_29 rfl ?_
      refine zV_iload_n d_Gr_number_30 rfl ?_
      refine zV_iload d_Gr_number_31 rfl ?_
      refine zS_invsE (mt' := m_Gr_placeOf) (avs := [(0, a), (0, b)]) (st := [(2, 75)]) d_Gr_number_33 l_Gr_27 k_Gr_placeOf rfl rfl rfl rfl (s_Gr_placeOf m a b) ?_
      show zS zT m_Gr_number (0, 0) 36 [some (2, 75), some (2, t), some (2, 73), some (0, a), some (0, b)] [(0, (9 * a + b)), (2, 75)] m _
      refine zV_aload_n d_Gr_number_36 rfl ?_
      refine zV_aload_n d_Gr_number_37 rfl ?_
      refine zV_iload_n d_Gr_number_38 rfl ?_
      refine zV_iload d_Gr_number_39 rfl ?_
      refine zS_invvE (mt' := m_Fo_holdsIn) (avs := [(2, t), (0, a), (0, b)]) (st := [(0, (9 * a + b)), (2, 75)]) d_Gr_number_41 l_Gr_31 k_Fo_holdsIn rfl rfl rfl rfl rfl (s_Fo_holdsIn m t a b h hT (okFo_fr hfr hF0) (by omega) (by omega)) ?_
      show zS zT m_Gr_number (0, 0) 44 [some (2, 75), some (2, t), some (2, 73), some (0, a), some (0, b)] [(0, (zb (hdX m t a b))), (0, (9 * a + b)), (2, 75)] m _
      refine zS_invvE (mt' := m_Gr_begin) (avs := [(0, (9 * a + b)), (0, (zb (hdX m t a b)))]) (st := []) d_Gr_number_44 l_Gr_37 k_Gr_begin rfl rfl rfl rfl rfl (s_Gr_begin m (9 * a + b) (zb (hdX m t a b)) (by omega) (zb_01 _)) ?_
      show zS zT m_Gr_number (0, 0) 47 [some (2, 75), some (2, t), some (2, 73), some (0, a), some (0, b)] [] (bgG m (9 * a + b) (zb (hdX m t a b))) _
      refine zV_iinc (L' := [some (2, 75), some (2, t), some (2, 73), some (0, a), some (0, (b + 1))]) d_Gr_number_47 (by decide) rfl rfl ?_
      refine zV_goto d_Gr_number_50 ?_
      refine ih _ (by omega) (b + 1) _ rfl (by omega) ?_
      rw [hh]
      exact BG_b hT0 ha ⟨i0.1, by omega⟩ i1
theorem s_Gr_number_53 (m : zMem) (t a : Int) (ha : 0 ≤ a ∧ a < 25) (Q9 : zQ2) (kk : zS zT m_Gr_number (0, 0) 7 [some (2, 75), some (2, t), some (2, 73), some (0, a + 1), none] [] m (zQs Q9)) : zS zT m_Gr_number (0, 0) 53 [some (2, 75), some (2, t), some (2, 73), some (0, a), none] [] m (zQs Q9) := by
  refine zV_iinc (L' := [some (2, 75), some (2, t), some (2, 73), some (0, (a + 1)), none]) d_Gr_number_53 (by decide) rfl rfl ?_
  refine zV_goto d_Gr_number_56 ?_
  exact kk
theorem s_Gr_number_7 (mem : zMem) (t : Int) (h : isSt t) (hT0 : okT mem t) (hF0 : okFo mem) (hB : hbX mem t) : ∀ (a : Int) (m : zMem), (0 ≤ a ∧ a ≤ mem t 2) → (BG mem t a 0 m) → zS zT m_Gr_number (0, 0) 7 [some (2, 75), some (2, t), some (2, 73), some (0, a), none] [] m (zQs (fun r m => ∃ n, r = some (0, n) ∧ NM mem t m n)) := by
  intro a m
  obtain ⟨k9, hk9⟩ : ∃ kq : Nat, (mem t 2 - a).toNat = kq := ⟨_, rfl⟩
  induction k9 using Nat.strongRecOn generalizing a m with
  | _ k9 ih =>
    intro i0 i1
    obtain ⟨t1, t2, t3, t4, t5, t6⟩ := id hT0
    have hfr := i1.1
    have hT := okT_fr hfr h hT0
    have e1 : m t 2 = mem t 2 := by rw [(fr_t hfr h).1]
    have e2 : m (t + 2) = mem (t + 2) := (fr_t hfr h).2.1
    have e3 : ∀ q, m (t + 2) q = mem (t + 2) q := fun q => by rw [e2]
    refine zV_iload_n d_Gr_number_7 rfl ?_
    refine zV_aload_n d_Gr_number_8 rfl ?_
    refine zS_get d_Gr_number_9 f_Gr_19 (kSt0 h) rfl ?_
    refine zV_icmp_ge d_Gr_number_12 (by omega) (by omega) (fun c12 => ?_) (fun c12 => ?_)
    · refine zV_iconst d_Gr_number_59 ?_
      refine zV_istore_n (L' := [some (2, 75), some (2, t), some (2, 73), some (0, 0), none]) d_Gr_number_60 (by decide) rfl ?_
      exact s_Gr_number_61 mem t h hT0 hF0 hB 0 m (rS mem t) ⟨by omega, by omega⟩ ⟨BG_GX hT0 (by omega) i1, ExG_rf _ _ _, hfr, fun x y hx => absurd hx inP_0⟩
    · refine zV_iconst d_Gr_number_15 ?_
      refine zV_istore (L' := [some (2, 75), some (2, t), some (2, 73), some (0, a), some (0, 0)]) d_Gr_number_16 (by decide) rfl ?_
      refine s_Gr_number_18 mem t h hT0 hF0 hB a ⟨i0.1, by omega⟩ (fun m1 p1 => ?_) 0 m ⟨by omega, by have := t4 a i0.1 (by omega); omega⟩ i1
      exact s_Gr_number_53 m1 t a (by omega) _ (ih _ (by omega) (a + 1) m1 rfl ⟨by omega, by omega⟩ p1)
theorem s_Gr_number (mem : zMem) (t : Int) (h : isSt t) (hT0 : okT mem t) (hF0 : okFo mem) (hB : hbX mem t) : zF m_Gr_number [(2, 75), (2, t), (2, 73)] mem (fun r m => ∃ n, r = some (0, n) ∧ NM mem t m n) := by
  refine zF_of (by decide) (Nat.le_of_ble_eq_true rfl) ?_
  show zS zT m_Gr_number (0, 0) 0 [some (2, 75), some (2, t), some (2, 73), none, none] [] mem _
  refine zV_aload_n d_Gr_number_0 rfl ?_
  refine zV_iconst d_Gr_number_1 ?_
  refine zS_puti d_Gr_number_2 f_Gr_15 rfl ⟨rfl, rfl⟩ rfl ?_
  refine zV_iconst d_Gr_number_5 ?_
  refine zV_istore_n (L' := [some (2, 75), some (2, t), some (2, 73), some (0, 0), none]) d_Gr_number_6 (by decide) rfl ?_
  refine s_Gr_number_7 mem t h hT0 hF0 hB 0 _ ⟨by omega, hT0.2.1.1⟩ ⟨fun x q1 q2 => zup_a q1, fun x hx => absurd hx inP_0, ?_⟩
  rw [zup_s]
  exact (zsm_0 (fun x => zb_f (fun z => inP_0 z.1)) 225 0).symm
