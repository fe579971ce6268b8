/-! what holds, sentences, pieces, loose ones linked -/
theorem StD_cg {mem m m' : zMem} {o : Int} (h : ∀ x, x < 73 → m' x = mem x) (hD : StD mem 3 mem 31) : StD m' 3 m' 31 := by
  have hr : RwE m' 3 mem 3 := by
    have n0 : 0 ≤ mem 3 1 ∧ mem 3 1 ≤ 4 := by
      have := hD.1.1.1
      have e := hD.2.2.2.1
      omega
    have e3 : m' 3 1 = mem 3 1 := by rw [h 3 (by decide)]
    exact ⟨e3, fun l k q1 q2 _ _ => by rw [h (3 + 2 + l) (by omega)]⟩
  have n1 : m' 3 1 = mem 3 1 := hr.1
  obtain ⟨d1, d2, d3, d4, d5, d6⟩ := hD
  have nn := d1.1.1
  refine ⟨okI_fr (fun x q1 q2 => h x (by omega)) d1, ?_, ?_, ?_, fun c q1 q2 => ?_, fun s q1 q2 => ?_⟩
  · rw [RwE_pt hr]
    obtain ⟨p1, p2, p3, p4⟩ := d2
    refine ⟨by unfold RT; rw [h (31 + 1) (by decide)]; exact p1, by rw [h 31 (by decide)]; exact p2, p3, fun p q1 q2 => ⟨(p4 p q1 q2).1, ?_⟩⟩
    have z : 31 + 9 ≤ mem (31 + 1) p ∧ mem (31 + 1) p < 31 + 21 := p1.1 p q1 (by omega)
    rw [h (31 + 1) (by decide), ← (p4 p q1 q2).2]
    unfold rP
    rw [h (mem (31 + 1) p) (by omega)]
  · rw [RwE_pt hr, h 31 (by decide)]; exact d3
  · rw [h 31 (by decide), n1]; exact d4
  · rw [n1] at q2
    rw [h (31 + 4) (by decide), h (3 + 2 + c) (by omega)]
    exact d5 c q1 q2
  · rw [RwE_pt hr] at q2
    obtain ⟨z1, z2⟩ := d6 s q1 q2
    refine ⟨by rw [h (31 + 2) (by decide), RwE_tp hr]; exact z1, fun c y1 y2 => ?_⟩
    rw [h (31 + 3) (by decide), RwE_pl hr ⟨y1, y2⟩]
    exact z2 c y1 (by rw [← n1]; exact y2)
theorem LX_cg {mem m' mm : zMem} (h : ∀ x, x < 73 → m' x = mem x) (hX : LX mem mm) : LX m' mm := by
  obtain ⟨hD, hK, hL, hP⟩ := hX
  have nn := hK.1
  have e3 : m' 3 1 = mem 3 1 := by rw [h 3 (by decide)]
  have hr : RwE m' 3 mem 3 := ⟨e3, fun l k q1 q2 _ _ => by rw [h (3 + 2 + l) (by omega)]⟩
  refine ⟨StD_cg (m := mem) (o := 3) h hD, RwE_K hr hK, ?_, ?_⟩
  · obtain ⟨a, b, c, d, e⟩ := hL
    refine ⟨a, by rw [RwE_pt hr]; exact b, by rw [RwE_pt hr]; exact c, fun l q1 q2 => ?_, fun l k q1 q2 q3 => e l k q1 q2 (by rw [← e3]; exact q3)⟩
    rw [e3] at q2
    obtain ⟨z1, z2⟩ := d l q1 q2
    refine ⟨?_, z2⟩
    unfold rq at z1 ⊢
    rw [h (3 + 2 + l) (by omega)]
    exact z1
  · unfold KP at hP ⊢
    rw [e3]
    exact hP
section zLX3
variable {mem mm : zMem} {st b j c d k r x i p q f : Int}
theorem rdF_fg {c : Int} (hc : 0 ≤ c ∧ c < 4) : rdF mem k f 74 c = fgM f c := by
  have h4 : c = 0 ∨ c = 1 ∨ c = 2 ∨ c = 3 := by omega
  unfold rdF
  simp only [zup_f]
  unfold uf
  rcases h4 with rfl | rfl | rfl | rfl <;> rfl
theorem rdF_md : rdF mem k f 73 1 = zb (k = 0) := by
  unfold rdF
  rw [zup_a (by decide), zup_a (by decide), zup_a (by decide), zup_a (by decide), zup_s]
theorem alw_so {g h : Int} (hg : 0 < g) : alw g h ↔ soM g h := by
  unfold alw soM
  omega
theorem LX_h (h : LX mem mm) (hf : 0 ≤ f) (hs : 0 ≤ st ∧ st < mem 31 2) : hdX (rdF mem k f) 31 st j ↔ hoM mm k f st j := by
  have hn := LX_n h
  have nn := h.2.1.1
  have e31 : rdF mem k f 31 3 = mem 3 1 := by rw [rdF_o (by decide)]; omega
  have es : ∀ c, 0 ≤ c ∧ c < mem 3 1 → sdS (rdF mem k f) 31 st j c = lsM mm st j c := fun c hc => by
    rw [← LX_s (j := j) h hs hc]
    unfold sdS
    rw [rdF_o (by decide), rdF_o (by decide)]
  have eg : ∀ c, 0 ≤ c ∧ c < mem 3 1 → rdF mem k f 74 c = fgM f c := fun c hc => rdF_fg (by omega)
  unfold hdX hoM
  rw [rdF_md, e31, ← hn.2.2.2.1]
  constructor
  · rintro (⟨z1, z2⟩ | ⟨z1, c, c0, c1, c2, c3⟩)
    · refine Or.inl ⟨zb_1.mp z1, fun c q1 q2 => ?_⟩
      have g0 := fgM_r (k := c) hf
      by_cases e : fgM f c = 0
      · exact Or.inl e
      · have z := z2 c q1 q2 (by rw [eg c ⟨q1, q2⟩]; exact e)
        rw [eg c ⟨q1, q2⟩, es c ⟨q1, q2⟩] at z
        exact (alw_so (by omega)).mp z
    · have g0 := fgM_r (k := c) hf
      rw [eg c ⟨c0, c1⟩] at c2
      rw [eg c ⟨c0, c1⟩, es c ⟨c0, c1⟩] at c3
      exact Or.inr ⟨zb_0.mp z1, c, c0, c1, by omega, (alw_so (by omega)).mp c3⟩
  · rintro (⟨z1, z2⟩ | ⟨z1, c, c0, c1, c2, c3⟩)
    · refine Or.inl ⟨zb_t z1, fun c q1 q2 q3 => ?_⟩
      have g0 := fgM_r (k := c) hf
      rw [eg c ⟨q1, q2⟩] at q3
      rw [eg c ⟨q1, q2⟩, es c ⟨q1, q2⟩]
      exact (alw_so (by omega)).mpr (z2 c q1 q2)
    · refine Or.inr ⟨zb_f z1, c, c0, c1, ?_, ?_⟩
      · rw [eg c ⟨c0, c1⟩]; omega
      · rw [eg c ⟨c0, c1⟩, es c ⟨c0, c1⟩]
        exact (alw_so c2).mpr c3
theorem LX_so (h : LX mem mm) (hf : 0 ≤ f) : soX (rdF mem k f) p q ↔ seM mm p q k f := by
  have hn := LX_n h
  have e31 : rdF mem k f 31 2 = mm 80 15 := by rw [rdF_o (by decide)]; omega
  have et : ∀ s, 0 ≤ s → s < mm 80 15 → rdF mem k f 33 s = 2 * mm 91 s := fun s q1 q2 => by rw [rdF_o (by decide)]; exact (LX_t h ⟨q1, by omega⟩).1
  have eo : ∀ s, 0 ≤ s → s < mm 80 15 → (soO (rdF mem k f) s q ↔ hiM mm q k f s) := fun s q1 q2 => by
    unfold soO hiM
    rw [et s q1 q2]
    constructor
    · rintro (⟨a, b⟩ | ⟨a, j, b, c, d⟩)
      · exact Or.inl ⟨a, fun j y1 y2 => (LX_h h hf ⟨q1, by omega⟩).mp (b j y1 (by omega))⟩
      · exact Or.inr ⟨a, j, b, by omega, (LX_h h hf ⟨q1, by omega⟩).mp d⟩
    · rintro (⟨a, b⟩ | ⟨a, j, b, c, d⟩)
      · exact Or.inl ⟨a, fun j y1 y2 => (LX_h h hf ⟨q1, by omega⟩).mpr (b j y1 (by omega))⟩
      · exact Or.inr ⟨a, j, b, by omega, (LX_h h hf ⟨q1, by omega⟩).mpr d⟩
  unfold soX seM
  rw [e31]
  constructor
  · rintro (⟨a, b⟩ | ⟨a, s, b, c, d⟩)
    · exact Or.inl ⟨a, fun s y1 y2 => (eo s y1 y2).mp (b s y1 y2)⟩
    · exact Or.inr ⟨a, s, b, c, (eo s b c).mp d⟩
  · rintro (⟨a, b⟩ | ⟨a, s, b, c, d⟩)
    · exact Or.inl ⟨a, fun s y1 y2 => (eo s y1 y2).mpr (b s y1 y2)⟩
    · exact Or.inr ⟨a, s, b, c, (eo s b c).mpr d⟩
theorem nb_sy {n j c i : Int} (h : nbM mm n j c i) : nbM mm c i n j := by
  rcases h with z | ⟨z1, z2⟩
  · exact Or.inl ⟨z.1.symm, by omega⟩
  · refine Or.inr ⟨by omega, ?_⟩
    by_cases e : n % 2 = 0
    · rw [if_pos e] at z2
      rw [if_neg (by omega)]
      exact z2
    · rw [if_neg e] at z2
      rw [if_pos (by omega)]
      exact z2
theorem LX_pc {m m2 : zMem} {n n' : Int} (h : LX mem mm) (hL : okL mm) (hf : 0 ≤ f) (h1 : NM (rdF mem k f) 31 m n) (h2 : NMm mm (HM mm k f) m2 n') : n = n' := by
  have hn := LX_n h
  have hR : LX (rdF mem k f) mm := LX_cg (fun x q => rdF_o (by omega)) h
  have hnR := LX_n hR
  obtain ⟨_, ρ, rfl, hG, hE, hed⟩ := h1
  obtain ⟨⟨_, hS⟩, hAF, rfl⟩ := h2
  have t2 : ∀ s, 0 ≤ s ∧ s < rdF mem k f 31 2 → rdF mem k f (31 + 2) s = 2 * mm 91 s := fun s q => (LX_t hR q).1
  have cD : ∀ s j, inC mm s j → inD (rdF mem k f) 31 (9 * s + j) := fun s j z => ⟨s, j, z.1.1, by have := z.1.2; omega, z.2.1, by rw [t2 s (by have := z.1; omega)]; exact z.2.2, rfl⟩
  have Dc : ∀ x, inD (rdF mem k f) 31 x → ∃ s j, inC mm s j ∧ x = 9 * s + j := fun x z => by
    obtain ⟨s, j, a1, a2, a3, a4, a5⟩ := z
    rw [t2 s ⟨a1, a2⟩] at a4
    exact ⟨s, j, ⟨⟨a1, by omega⟩, a3, a4⟩, a5⟩
  have Deq : ∀ x, inD (rdF mem k f) 31 x ↔ inD (vM mm) 0 x := fun x => ⟨fun z => by
    obtain ⟨s, j, y1, y2⟩ := Dc x z
    rw [y2]; exact inC_D y1, fun z => by
    obtain ⟨s, j, y1, y2⟩ := D_inC z
    rw [y2]; exact cD s j y1⟩
  have Heq : ∀ x, inD (vM mm) 0 x → (rS (rdF mem k f) 31 x ≠ -1 ↔ HM mm k f x) ∧ (rS (rdF mem k f) 31 x ≠ -1 → rS (rdF mem k f) 31 x = x) := fun x z => by
    obtain ⟨s, j, y1, y2⟩ := D_inC z
    have h8 := inC_8 hL y1
    have hh : hdX (rdF mem k f) 31 (x / 9) (x % 9) ↔ HM mm k f x := by
      unfold HM
      rw [show x / 9 = s by have := y1.2; omega]
      exact LX_h h hf (by have := y1.1; omega)
    have x0 : 0 ≤ x := by have := y1.1; have := y1.2; omega
    unfold rS
    rcases Classical.em (hdX (rdF mem k f) 31 (x / 9) (x % 9)) with c | c
    · rw [cif_t c]
      exact ⟨⟨fun _ => hh.mp c, fun _ => by omega⟩, fun _ => rfl⟩
    · rw [cif_f c]
      exact ⟨⟨fun q => absurd rfl q, fun q => absurd (hh.mpr q) c⟩, fun q => absurd rfl q⟩
  have edn : ∀ u v, edX (rdF mem k f) 31 u v → inD (rdF mem k f) 31 u → inD (rdF mem k f) 31 v → ∃ s j c i, inC mm s j ∧ inC mm c i ∧ u = 9 * s + j ∧ v = 9 * c + i ∧ nbM mm s j c i ∧ s - 1 ≤ c ∧ c ≤ s + 1 := fun u v z _ hv => by
    rcases z with ⟨s, j, a1, a2, a3, a4, a5, a6⟩ | ⟨s, j, c, i, a1, a2, a3, a4, a5, a6, a7, a8, a9, a10, a11, a12⟩
    · rw [t2 s ⟨a1, a2⟩] at a4
      exact ⟨s, j, s, j - 1, ⟨⟨a1, by omega⟩, by omega, a4⟩, ⟨⟨a1, by omega⟩, by omega, by omega⟩, a5, by omega, Or.inl ⟨rfl, by omega⟩, by omega, by omega⟩
    · rw [t2 s ⟨a1, a2⟩] at a5
      have lh := LX_lh (i := i) hR ⟨a1, a2⟩ a3 a6 ⟨a7, a8⟩ ⟨a4, a5⟩
      exact ⟨s, j, c, i, ⟨⟨a1, by omega⟩, a4, a5⟩, ⟨⟨a7, by omega⟩, by omega, by omega⟩, a11, a12, Or.inr ⟨by omega, by rw [if_pos a3]; exact lh.1.mpr ⟨a9, a10⟩⟩, by omega, by omega⟩
  have nbe : ∀ s j c i, inC mm s j → inC mm c i → nbM mm s j c i → edX (rdF mem k f) 31 (9 * s + j) (9 * c + i) ∨ edX (rdF mem k f) 31 (9 * c + i) (9 * s + j) := fun s j c i y1 y2 z => by
    have q1 := y1.1
    have q2 := y2.1
    have q3 := y1.2
    have q4 := y2.2
    rcases z with ⟨z1, z2⟩ | ⟨z1, z2⟩
    · subst z1
      rcases z2 with z2 | z2
      · left; left
        exact ⟨s, j, q1.1, by omega, by omega, by rw [t2 s (by omega)]; omega, rfl, by omega⟩
      · right; left
        exact ⟨s, i, q1.1, by omega, by omega, by rw [t2 s (by omega)]; omega, rfl, by omega⟩
    · by_cases e : s % 2 = 0
      · rw [if_pos e] at z2
        have lh := (LX_lh (i := i) hR (st := s) (b := c) (j := j) (by omega) e (by omega) (by omega) (by omega)).1.mp z2
        left; right
        exact ⟨s, j, c, i, q1.1, by omega, e, q3.1, by rw [t2 s (by omega)]; omega, by omega, q2.1, by omega, lh.1, lh.2, rfl, rfl⟩
      · rw [if_neg e] at z2
        have lh := (LX_lh (i := j) hR (st := c) (b := s) (j := i) (by omega) (by omega) (by omega) (by omega) (by omega)).1.mp z2
        right; right
        exact ⟨c, i, s, j, q2.1, by omega, by omega, q4.1, by rw [t2 c (by omega)]; omega, by omega, q1.1, by omega, lh.1, lh.2, rfl, rfl⟩
  have gρ : GC mm (HM mm k f) ρ := fun s j c i y1 y2 z1 z2 z3 => by
    have u1 := cD s j y1
    have u2 := cD c i y2
    have r1 := (Heq _ (inC_D y1)).1.mpr z1
    have r2 := (Heq _ (inC_D y2)).1.mpr z2
    rcases nbe s j c i y1 y2 z3 with z | z
    · exact hed _ _ u1 u2 r1 r2 z
    · exact (hed _ _ u2 u1 r2 r1 z).symm
  have gπ : ∀ x, inD (rdF mem k f) 31 x → ρ x ≠ -1 → m2 93 (ρ x) = m2 93 x := hE.2.2 (m2 93) (fun u v z1 z2 z3 z4 z5 => by
    obtain ⟨s, j, c, i, y1, y2, y3, y4, y5, y6, y7⟩ := edn u v z1 z2 z3
    have f1 := hAF s j c i y1 y2 y6 y7
    have f2 := hAF c i s j y2 y1 (by omega) (by omega)
    rw [y3] at z4 ⊢
    rw [y4] at z5 ⊢
    have p1 : m2 93 (9 * s + j) ≠ -1 := by
      rcases hS _ (inC_D y1) with w | w
      · exact absurd ((Heq _ (inC_D y1)).1.mp z4) w.2
      · have := w.2.1; omega
    have p2 : m2 93 (9 * c + i) ≠ -1 := by
      rcases hS _ (inC_D y2) with w | w
      · exact absurd ((Heq _ (inC_D y2)).1.mp z5) w.2
      · have := w.2.1; omega
    apply Classical.byContradiction
    intro hne
    rcases Int.lt_or_le (m2 93 (9 * s + j)) (m2 93 (9 * c + i)) with q | q
    · exact f1 ⟨p1, q, y5⟩
    · exact f2 ⟨p2, by omega, nb_sy y5⟩) (fun x z1 z2 => by rw [(Heq x ((Deq x).mp z1)).2 z2])
  have eq : ∀ x, inD (vM mm) 0 x → ρ x = m2 93 x := fun x hx => by
    have hx' := (Deq x).mpr hx
    have hq := Heq x hx
    have he := hE.1 x hx'
    rcases hS x hx with ⟨w1, w2⟩ | ⟨w1, w2, w3, w4, w5, w6⟩
    · rw [w1]
      apply Classical.byContradiction
      intro q
      exact w2 (hq.1.mp (fun z => q (he.mpr z)))
    · have r1 : ρ x ≠ -1 := fun z => (hq.1.mpr w1) (he.mp z)
      have a1 := w6 ρ gρ
      rcases (hG x hx').2 with g | g
      · exact absurd g.2 r1
      · obtain ⟨_, _, _, _, g5, g6, g7, _, g9, _⟩ := g
        have a2 := gπ x hx' r1
        have b1 : ρ (m2 93 x) ≤ m2 93 x := by
          rcases (hG _ ((Deq _).mpr w4)).2 with g | g
          · have := g.2; omega
          · exact g.2.2.2.2.2.1
        have b2 : m2 93 (ρ x) ≤ ρ x := by
          rcases hS _ ((Deq _).mp g7) with w | w
          · have := w.1; omega
          · exact w.2.2.1
        omega
  unfold cntR
  refine zsm_cong _ _ (fun x _ _ => ?_)
  show zb _ = zb _
  apply zb_iff
  rw [Deq x]
  exact ⟨fun z => ⟨z.1, by rw [← eq x z.1]; exact z.2⟩, fun z => ⟨z.1, by rw [eq x z.1]; exact z.2⟩⟩
end zLX3
