/-! build, told by the row alone -/
theorem rowM_4 (mem : zMem) (o k : Int) : rowM mem o (0 + 4) k = zb (mem (o + 2 + k) 0 = 3) := by
  unfold rowM
  rw [if_neg (by decide), if_pos (by decide)]
theorem rowM_5 (mem : zMem) (o k : Int) : rowM mem o (0 + 5) k = sqK (mem (o + 2 + k) 0) := by
  unfold rowM
  rw [if_neg (by decide), if_neg (by decide), if_pos (by decide)]
theorem rowM_6 (mem : zMem) (o k : Int) : rowM mem o (0 + 6) k = slK (mem (o + 2 + k) 0) (mem (o + 2 + k) 1) := by
  unfold rowM
  rw [if_neg (by decide), if_neg (by decide), if_neg (by decide), if_pos (by decide)]
theorem rowM_7 (mem : zMem) (o k : Int) : rowM mem o (0 + 7) k = mem (o + 2 + k) 2 := by
  unfold rowM
  rw [if_neg (by decide), if_neg (by decide), if_neg (by decide), if_neg (by decide)]
theorem rowM_0 (mem : zMem) (o : Int) : rowM mem o 0 3 = mem o 1 := by
  unfold rowM
  rw [if_pos rfl, if_pos rfl]
theorem Cg_rd {mem m1 : zMem} {t o : Int} (w : rdW mem t o (mem o 1) m1) : Cg (zup m1 t 1 0) t (rowM mem o) 0 (mem o 1) := by
  obtain ⟨g1, g2, g3⟩ := w
  refine ⟨⟨by rw [zup_f, uf_n (by decide), g2, uf_s], rowM_0 mem o⟩, fun k q1 q2 => ?_⟩
  obtain ⟨k4, k5, k6, k7⟩ := g3 k
  rw [zup_a (by omega), zup_a (by omega), zup_a (by omega), zup_a (by omega), k4, k5, k6, k7, if_pos ⟨q1, q2⟩, if_pos ⟨q1, q2⟩, if_pos ⟨q1, q2⟩, if_pos ⟨q1, q2⟩, rowM_4, rowM_5, rowM_6, rowM_7]
  exact ⟨rfl, rfl, rfl, rfl⟩
theorem Cg_fe {m m' mr : zMem} {t n v : Int} (h : Cg m t mr 0 n) (hf : frE t m m') : Cg (zup m' t 2 v) t mr 0 n := by
  refine ⟨⟨by rw [zup_f, uf_n (by decide), hf.2 3 (by decide)]; exact h.1.1, h.1.2⟩, fun k q1 q2 => ?_⟩
  rw [zup_a (by omega), zup_a (by omega), zup_a (by omega), zup_a (by omega), frE_a hf (k := 4) (by omega), frE_a hf (k := 5) (by omega), frE_a hf (k := 6) (by omega), frE_a hf (k := 7) (by omega)]
  exact h.2 k q1 q2
theorem PS_z {m : zMem} {t v : Int} {s : PtS} (hs : PS m t s) : PS (zup m t 2 v) t s := by
  obtain ⟨z1, z2, z3, z4⟩ := hs
  refine ⟨by unfold RT; rw [zup_a (by omega)]; exact z1, by rw [zup_f, uf_n (by omega)]; exact z2, z3, fun p q1 q2 => ⟨(z4 p q1 q2).1, ?_⟩⟩
  have z5 : t + 9 ≤ m (t + 1) p ∧ m (t + 1) p < t + 21 := z1.1 p q1 (by omega)
  rw [zup_a (by omega), ← (z4 p q1 q2).2]
  unfold rP
  rw [zup_a (by omega)]
theorem okC_z2 {m : zMem} {t v : Int} (h : okC m t) : okC (zup m t 2 v) t := by
  unfold okC
  rw [zup_f, uf_n (by omega), zup_a (by omega), zup_a (by omega), zup_a (by omega), zup_a (by omega)]
  exact h
theorem bld_fin {mem m9 : zMem} {t o : Int} (hK : rwK mem o) (hI : okI mem t) (hb : bldR mem t o m9) : StD mem o m9 t ∧ frS t mem m9 := by
  obtain ⟨m1, mp, m3, w1, p1, p2, b, pl⟩ := hb
  have hC1 : okC (zup m1 t 1 0) t := okC_z (rd_C hK hI.1 w1)
  have hCA : okC (zup mp t 2 (2 * mp t 1 + 1)) t := okC_z2 (okC_fe p2 hC1)
  have g1 := Cg_rd w1
  have gA := Cg_fe (v := 2 * mp t 1 + 1) g1 p2
  have es : allP (zup m1 t 1 0) t (0, fun _ => (0, 0, 0, 1)) = ptR mem o := allP_cg g1 _
  rw [es] at p1 b pl
  have pA : PS (zup mp t 2 (2 * mp t 1 + 1)) t (ptR mem o) := PS_z p1
  have eA2 : zup mp t 2 (2 * mp t 1 + 1) t 2 = 2 * (ptR mem o).1 + 1 := by rw [zup_s, p1.2.1]
  have fA : ∀ x, (x < t ∨ t + 21 ≤ x) → zup mp t 2 (2 * mp t 1 + 1) x = mem x := fun x hx => by
    rw [zup_a (by omega), p2.1 x (by omega) (by omega) (fun z => by have z9 : t + 9 ≤ x ∧ x < t + 21 := z; omega), zup_a (by omega), w1.1 x (by omega) (by omega) (by omega) (by omega) (by omega)]
  generalize zup mp t 2 (2 * mp t 1 + 1) = A at *
  have c3 := BD_C b hCA
  obtain ⟨b1, b2, b3, b4, b5, b6, b7⟩ := b
  obtain ⟨l1, l2⟩ := pl
  have f9 : frB t A m9 := fun x q1 q2 q3 => (l1 x q2).trans (b1 x q1 q2 q3)
  have e0 : m3 t = A t := b1 t (by omega) (by omega) (by omega)
  have n3 : A t 3 = mem o 1 := gA.1.1
  have hn := hK.1
  have hp9 := PS_B f9 pA
  have np := pA.2.2.1
  have h8 : m9 (t + 8) = m3 (t + 8) := l1 _ (by omega)
  have h2 : m9 (t + 2) = m3 (t + 2) := l1 _ (by omega)
  have m31 : m3 t 1 = (ptR mem o).1 := by rw [e0]; exact pA.2.1
  have e4 : m3 (t + 4) = A (t + 4) := b1 _ (by omega) (by omega) (by omega)
  have e7 : m3 (t + 7) = A (t + 7) := b1 _ (by omega) (by omega) (by omega)
  have hw : ∀ s c o', 0 ≤ c → c < mem o 1 → 0 ≤ o' → o' < mem o 1 → wF (FS A t (ptR mem o).2 s) c o' = wR mem o s c o' := fun s c o' q1 q2 q3 q4 => wF_cg (n := mem o 1) (fun x y y1 y2 y3 y4 => FS_cg gA _ s ⟨y1, y2⟩ ⟨y3, y4⟩) ⟨q1, q2⟩ ⟨q3, q4⟩
  have hu : ∀ k, 0 ≤ k → k < mem o 1 → A (t + 4) k = rowM mem o 4 k := fun k q1 q2 => (gA.2 k q1 q2).1
  refine ⟨⟨⟨?_, ⟨?_, ?_, ?_, ?_⟩, hp9.1⟩, ⟨hp9.1, hp9.2.2.2, np, fun p q1 q2 => hp9.2.1 p q1 (by rw [hp9.2.2.2]; exact q2)⟩, ?_, ?_, ?_, ?_⟩, ?_⟩
  · exact okC_fr (l1 _ (by omega)) (l1 _ (by omega)) (l1 _ (by omega)) (l1 _ (by omega)) (l1 _ (by omega)) c3
  · unfold okG; rw [h8]; exact b2
  · rw [h8]; exact b3
  · rw [h2]; exact b4
  · intro x q1 q2
    have z := l2 (x / 4) (x % 4) (by omega) (by omega) (by omega) (by omega)
    rw [show 4 * (x / 4) + x % 4 = x by omega] at z
    rw [z]
    split
    · have := stA_r (ptR mem o).2 (n := m3 t 1) (x := m3 (t + 7) (x % 4)) (by omega)
      omega
    · exact b5 x q1 q2
  · rw [l1 t (by omega), e0]; exact eA2
  · rw [l1 t (by omega), e0]; exact n3
  · intro c q1 q2
    rw [l1 _ (by omega), e4, hu c q1 q2]
    exact rowM_4 mem o c
  · intro s q1 q2
    have bs := b7 s q1 q2
    refine ⟨?_, fun c y1 y2 => ?_⟩
    · rw [h2, bs.1, n3]
      unfold tpR
      rw [nsM_cg hu (hw s)]
    · rw [l2 s c q1 (by omega) y1 (by omega), bs.2 c y1 (by omega)]
      unfold plR
      have hz : m3 (t + 4) c = zb (mem (o + 2 + c) 0 = 3) := by rw [e4, hu c y1 y2]; exact rowM_4 mem o c
      have h37 : m3 (t + 7) c = mem (o + 2 + c) 2 := by rw [e7, (gA.2 c y1 y2).2.2.2]; exact rowM_7 mem o c
      have e03 : m3 t 3 = mem o 1 := by rw [e0]; exact n3
      have e02 : m3 t 2 = 2 * (ptR mem o).1 + 1 := by rw [e0]; exact eA2
      by_cases e : mem (o + 2 + c) 0 = 3
      · rw [if_pos e, if_pos ⟨Or.inl (by omega), by omega, by rw [hz, zb_t e], by omega⟩, m31, h37]
      · rw [if_neg e, if_neg (fun z => by have z1 := z.2.2.1; rw [hz, zb_f e] at z1; exact absurd z1 (by decide)), n3, bwM_cg hu (hw s) ⟨y1, y2⟩]
  · intro x hx
    rw [l1 x (by omega), b1 x (by omega) (by omega) (by omega)]
    exact fA x hx
