/-! both objects side by side: what stands between two calls -/
def rowE (m : zMem) (o a f : Int) : Prop := m 80 f = m o 1 ∧ ∀ k, 0 ≤ k → k < m o 1 → m a k = m (o + 2 + k) 0 ∧ m (a + 1) k = m (o + 2 + k) 1 ∧ m (a + 2) k = m (o + 2 + k) 2 ∧ m (a + 3) k = m (o + 2 + k) 3
def senE (m : zMem) (t a f : Int) : Prop := m 80 f = m t 4 ∧ ∀ j, 0 ≤ j → j < m t 4 → m a (4 * j) = m (t + 1) j ∧ m a (4 * j + 1) = m (t + 2) j ∧ m a (4 * j + 2) = m (t + 3) j ∧ m a (4 * j + 3) = m (t + 4) j
def IVp (m : zMem) : Prop := (0 ≤ m 1 1 ∧ m 1 1 ≤ 24) ∧ m 80 1 = m 1 1 ∧ ∀ i, 0 ≤ i → i < m 1 1 → (0 ≤ m 2 i ∧ m 2 i ≤ 126) ∧ m 81 i = m 2 i
def IVr (m : zMem) : Prop := rwK m 3 ∧ moK m ∧ rowE m 3 82 2 ∧ ∀ k, 0 ≤ k → k < 4 → I32 (m 85 k)
def IVs (m : zMem) : Prop := okS m 21 ∧ senE m 21 94 22
def IVk (m : zMem) : Prop := (m 0 12 = 0 ∨ m 0 12 = 1) ∧ rwK m 9 ∧ okS m 26 ∧ (m 0 12 = 1 → m 9 1 ≠ 0 ∧ rowE m 9 95 26 ∧ senE m 26 99 27) ∧ (m 0 12 = 1 ↔ m 80 25 = m 80 3) ∧ (-1 ≤ m 80 25 ∧ m 80 25 ≤ m 80 3) ∧ ∀ k, 0 ≤ k → k < 4 → ((0 ≤ m 95 k ∧ m 95 k ≤ 4) ∧ (-9 ≤ m 96 k ∧ m 96 k ≤ 9) ∧ (-9 ≤ m 97 k ∧ m 97 k ≤ 9)) ∧ I32 (m 98 k)
def IVd (m : zMem) : Prop := m 80 24 = m 77 0 ∧ 0 ≤ m 77 0 ∧ m 77 0 < 2147483648
def IVg (m : zMem) : Prop := (0 ≤ m 78 1 ∧ m 78 1 < 8) ∧ (0 ≤ m 78 2 ∧ m 78 2 ≤ 8) ∧ m 80 20 = m 78 2 ∧ (∀ i, 0 ≤ i → i < 8 → 0 ≤ m 79 i ∧ m 79 i ≤ 1) ∧ (∀ i, 0 ≤ i → i < 8 → 0 ≤ m 92 i ∧ m 92 i ≤ 1) ∧ ∀ i, 0 ≤ i → i < m 78 2 → m 92 i = m 79 ((m 78 1 - 1 - i) % 8)
def IVn (n : Int) (m : zMem) : Prop := m 80 3 = m 0 13 ∧ m 80 18 = m 0 14 ∧ m 80 4 = m 0 15 ∧ (0 ≤ m 0 13 ∧ m 0 13 ≤ n) ∧ (0 ≤ m 0 14 ∧ m 0 14 ≤ n) ∧ 0 ≤ m 0 15 ∧ m 0 15 ≤ 4 * n + 8
def IVt (m : zMem) : Prop := okI m 31 ∧ okI m 52 ∧ FRS m ∧ (m 3 1 ≠ 0 → StD m 3 m 31) ∧ (m 3 1 = 0 → m 31 1 = 0 ∧ m 31 2 = 0)
def IV (n : Int) (m : zMem) : Prop := IVp m ∧ IVr m ∧ IVs m ∧ IVk m ∧ IVd m ∧ IVg m ∧ IVn n m ∧ IVt m
def PR (mc mm : zMT) (args : List zAV) (t : Nat) (n : Int) (mem : zMem) : Prop := zF mc ((2, 0) :: args) mem (fun r m => ∃ v, r = some (t, v) ∧ zF mm ((2, 80) :: args) m (fun r' m' => r' = some (t, v) ∧ IV (n + 1) m'))
section zIV
variable {m m' : zMem}
theorem rowE_cg {o a f : Int} (h : ∀ x, o ≤ x → x ≤ o + 5 → m' x = m x) (h1 : ∀ x, a ≤ x → x ≤ a + 3 → m' x = m x) (h2 : m' 80 f = m 80 f) (hn : m o 1 ≤ 4) (hE : rowE m o a f) : rowE m' o a f := by
  obtain ⟨e1, e2⟩ := hE
  refine ⟨by rw [h2, h o (by omega) (by omega)]; exact e1, fun k q1 q2 => ?_⟩
  rw [h o (by omega) (by omega)] at q2
  rw [h (o + 2 + k) (by omega) (by omega), h1 a (by omega) (by omega), h1 (a + 1) (by omega) (by omega), h1 (a + 2) (by omega) (by omega), h1 (a + 3) (by omega) (by omega)]
  exact e2 k q1 q2
theorem senE_cg {t a f : Int} (h : ∀ x, t ≤ x → x ≤ t + 4 → m' x = m x) (h1 : m' a = m a) (h2 : m' 80 f = m 80 f) (hE : senE m t a f) : senE m' t a f := by
  unfold senE
  rw [h2, h t (by omega) (by omega), h (t + 1) (by omega) (by omega), h (t + 2) (by omega) (by omega), h (t + 3) (by omega) (by omega), h (t + 4) (by omega) (by omega), h1]
  exact hE
theorem okS_cg {t : Int} (h : ∀ x, t ≤ x → x ≤ t + 4 → m' x = m x) (hE : okS m t) : okS m' t := by
  unfold okS
  rw [h t (by omega) (by omega), h (t + 1) (by omega) (by omega), h (t + 2) (by omega) (by omega), h (t + 3) (by omega) (by omega), h (t + 4) (by omega) (by omega)]
  exact hE
theorem rwK_cg {o : Int} (h : ∀ x, o ≤ x → x ≤ o + 5 → m' x = m x) (hE : rwK m o) : rwK m' o := by
  obtain ⟨e1, e2⟩ := hE
  refine ⟨by rw [h o (by omega) (by omega)]; exact e1, fun k q1 q2 => ?_⟩
  rw [h o (by omega) (by omega)] at q2
  rw [h (o + 2 + k) (by omega) (by omega)]
  exact e2 k q1 q2
theorem IVp_cg (h1 : m' 1 = m 1) (h2 : m' 2 = m 2) (h3 : m' 80 1 = m 80 1) (h4 : m' 81 = m 81) (h : IVp m) : IVp m' := by
  unfold IVp
  rw [h1, h2, h3, h4]
  exact h
theorem IVr_cg (h : ∀ x, 3 ≤ x → x ≤ 8 → m' x = m x) (h1 : ∀ x, 82 ≤ x → x ≤ 85 → m' x = m x) (h2 : m' 80 2 = m 80 2) (hE : IVr m) : IVr m' := by
  obtain ⟨e1, e2, e3, e4⟩ := hE
  refine ⟨rwK_cg (fun x q1 q2 => h x q1 (by omega)) e1, ?_, rowE_cg (fun x q1 q2 => h x q1 (by omega)) (fun x q1 q2 => h1 x q1 (by omega)) h2 e1.1.2 e3, by rw [h1 85 (by decide) (by decide)]; exact e4⟩
  unfold moK
  rw [h2, h1 82 (by decide) (by decide), h1 83 (by decide) (by decide), h1 84 (by decide) (by decide)]
  exact e2
theorem IVs_cg (h : ∀ x, 21 ≤ x → x ≤ 25 → m' x = m x) (h1 : m' 94 = m 94) (h2 : m' 80 22 = m 80 22) (hE : IVs m) : IVs m' := ⟨okS_cg (fun x q1 q2 => h x q1 (by omega)) hE.1, senE_cg (fun x q1 q2 => h x q1 (by omega)) h1 h2 hE.2⟩
theorem IVk_cg (h0 : m' 0 12 = m 0 12) (h : ∀ x, 9 ≤ x → x ≤ 14 → m' x = m x) (h1 : ∀ x, 26 ≤ x → x ≤ 30 → m' x = m x) (h2 : ∀ x, 95 ≤ x → x ≤ 99 → m' x = m x) (h3 : m' 80 3 = m 80 3) (h4 : m' 80 25 = m 80 25) (h5 : m' 80 26 = m 80 26) (h6 : m' 80 27 = m 80 27) (hE : IVk m) : IVk m' := by
  obtain ⟨e1, e2, e3, e4, e5, e6, e7⟩ := hE
  refine ⟨by rw [h0]; exact e1, rwK_cg (fun x q1 q2 => h x q1 (by omega)) e2, okS_cg (fun x q1 q2 => h1 x q1 (by omega)) e3, fun q => ?_, by rw [h0, h4, h3]; exact e5, by rw [h4, h3]; exact e6, ?_⟩
  · rw [h0] at q
    obtain ⟨a, b, c⟩ := e4 q
    exact ⟨by rw [h 9 (by decide) (by decide)]; exact a, rowE_cg (fun x q1 q2 => h x q1 (by omega)) (fun x q1 q2 => h2 x q1 (by omega)) h5 e2.1.2 b, senE_cg (fun x q1 q2 => h1 x q1 (by omega)) (h2 99 (by decide) (by decide)) h6 c⟩
  · rw [h2 95 (by decide) (by decide), h2 96 (by decide) (by decide), h2 97 (by decide) (by decide), h2 98 (by decide) (by decide)]
    exact e7
theorem IVd_cg (h1 : m' 77 = m 77) (h2 : m' 80 24 = m 80 24) (h : IVd m) : IVd m' := by
  unfold IVd
  rw [h1, h2]
  exact h
theorem IVg_cg (h1 : m' 78 = m 78) (h2 : m' 79 = m 79) (h3 : m' 80 20 = m 80 20) (h4 : m' 92 = m 92) (h : IVg m) : IVg m' := by
  unfold IVg
  rw [h1, h2, h3, h4]
  exact h
theorem IVn_cg {n k : Int} (hk : n ≤ k) (h1 : m' 0 13 = m 0 13) (h2 : m' 0 14 = m 0 14) (h3 : m' 0 15 = m 0 15) (h4 : m' 80 3 = m 80 3) (h5 : m' 80 18 = m 80 18) (h6 : m' 80 4 = m 80 4) (h : IVn n m) : IVn k m' := by
  obtain ⟨a, b, c, d, e, f⟩ := h
  refine ⟨?_, ?_, ?_, ?_, ?_, ?_⟩ <;> (try rw [h1]) <;> (try rw [h2]) <;> (try rw [h3]) <;> (try rw [h4]) <;> (try rw [h5]) <;> (try rw [h6]) <;> omega
theorem StD_fr (h : ∀ x, 3 ≤ x → x ≤ 8 → m' x = m x) (h1 : ∀ x, 31 ≤ x → x ≤ 51 → m' x = m x) (hD : StD m 3 m 31) : StD m' 3 m' 31 := by
  have n0 : 0 ≤ m 3 1 ∧ m 3 1 ≤ 4 := by
    have := hD.1.1.1
    have e := hD.2.2.2.1
    omega
  have hr : RwE m' 3 m 3 := ⟨by rw [h 3 (by decide) (by decide)], fun l k q1 q2 _ _ => by rw [h 3 (by decide) (by decide)] at q2; rw [h (3 + 2 + l) (by omega) (by omega)]⟩
  have n1 : m' 3 1 = m 3 1 := hr.1
  obtain ⟨d1, d2, d3, d4, d5, d6⟩ := hD
  refine ⟨okI_fr (fun x q1 q2 => h1 x q1 (by omega)) d1, ?_, ?_, ?_, fun c q1 q2 => ?_, fun s q1 q2 => ?_⟩
  · rw [RwE_pt hr]
    obtain ⟨p1, p2, p3, p4⟩ := d2
    refine ⟨by unfold RT; rw [h1 (31 + 1) (by decide) (by decide)]; exact p1, by rw [h1 31 (by decide) (by decide)]; exact p2, p3, fun p q1 q2 => ⟨(p4 p q1 q2).1, ?_⟩⟩
    have z : 31 + 9 ≤ m (31 + 1) p ∧ m (31 + 1) p < 31 + 21 := p1.1 p q1 (by omega)
    rw [h1 (31 + 1) (by decide) (by decide), ← (p4 p q1 q2).2]
    unfold rP
    rw [h1 (m (31 + 1) p) (by omega) (by omega)]
  · rw [RwE_pt hr, h1 31 (by decide) (by decide)]; exact d3
  · rw [h1 31 (by decide) (by decide), n1]; exact d4
  · rw [n1] at q2
    rw [h1 (31 + 4) (by decide) (by decide), h (3 + 2 + c) (by omega) (by omega)]
    exact d5 c q1 q2
  · rw [RwE_pt hr] at q2
    obtain ⟨z1, z2⟩ := d6 s q1 q2
    refine ⟨by rw [h1 (31 + 2) (by decide) (by decide), RwE_tp hr]; exact z1, fun c y1 y2 => ?_⟩
    rw [h1 (31 + 3) (by decide) (by decide), RwE_pl hr ⟨y1, y2⟩]
    exact z2 c y1 (by rw [← n1]; exact y2)
theorem IVt_cg (h : ∀ x, 3 ≤ x → x ≤ 8 → m' x = m x) (h1 : ∀ x, 31 ≤ x → x ≤ 51 → m' x = m x) (h2 : okI m' 52) (h3 : FRS m') (hE : IVt m) : IVt m' := by
  obtain ⟨e1, e2, e3, e4, e5⟩ := hE
  refine ⟨okI_fr (fun x q1 q2 => h1 x q1 (by omega)) e1, h2, h3, fun q => StD_fr h h1 (e4 (by rw [h 3 (by decide) (by decide)] at q; exact q)), fun q => ?_⟩
  rw [h1 31 (by decide) (by decide)]
  exact e5 (by rw [h 3 (by decide) (by decide)] at q; exact q)
/-- no field that stands between calls is touched -/
def sam (m m' : zMem) : Prop := (∀ a, a < 80 → ¬ (15 ≤ a ∧ a < 21) → ¬ (52 ≤ a ∧ a < 77) → m' a = m a) ∧ (∀ a, 81 ≤ a → a ≤ 99 → ¬ (86 ≤ a ∧ a ≤ 91) → a ≠ 93 → m' a = m a) ∧ (∀ k, k ≠ 9 → k ≠ 14 → k ≠ 15 → k ≠ 33 → m' 80 k = m 80 k) ∧ okI m' 52 ∧ FRS m'
theorem IV_sam {n k : Int} (hk : n ≤ k) (hs : sam m m') (h : IV n m) : IV k m' := by
  obtain ⟨a, b, c, d, e, f, g, t⟩ := h
  obtain ⟨s1, s2, s3, s4, s5⟩ := hs
  have z := fun k q1 q2 q3 q4 => s3 k q1 q2 q3 q4
  refine ⟨IVp_cg (s1 1 (by decide) (by decide) (by decide)) (s1 2 (by decide) (by decide) (by decide)) (z 1 (by decide) (by decide) (by decide) (by decide)) (s2 81 (by decide) (by decide) (by decide) (by decide)) a, IVr_cg (fun x q1 q2 => s1 x (by omega) (by omega) (by omega)) (fun x q1 q2 => s2 x (by omega) (by omega) (by omega) (by omega)) (z 2 (by decide) (by decide) (by decide) (by decide)) b, IVs_cg (fun x q1 q2 => s1 x (by omega) (by omega) (by omega)) (s2 94 (by decide) (by decide) (by decide) (by decide)) (z 22 (by decide) (by decide) (by decide) (by decide)) c, IVk_cg (by rw [s1 0 (by decide) (by decide) (by decide)]) (fun x q1 q2 => s1 x (by omega) (by omega) (by omega)) (fun x q1 q2 => s1 x (by omega) (by omega) (by omega)) (fun x q1 q2 => s2 x (by omega) (by omega) (by omega) (by omega)) (z 3 (by decide) (by decide) (by decide) (by decide)) (z 25 (by decide) (by decide) (by decide) (by decide)) (z 26 (by decide) (by decide) (by decide) (by decide)) (z 27 (by decide) (by decide) (by decide) (by decide)) d, IVd_cg (s1 77 (by decide) (by decide) (by decide)) (z 24 (by decide) (by decide) (by decide) (by decide)) e, IVg_cg (s1 78 (by decide) (by decide) (by decide)) (s1 79 (by decide) (by decide) (by decide)) (z 20 (by decide) (by decide) (by decide) (by decide)) (s2 92 (by decide) (by decide) (by decide) (by decide)) f, IVn_cg hk (by rw [s1 0 (by decide) (by decide) (by decide)]) (by rw [s1 0 (by decide) (by decide) (by decide)]) (by rw [s1 0 (by decide) (by decide) (by decide)]) (z 3 (by decide) (by decide) (by decide) (by decide)) (z 18 (by decide) (by decide) (by decide) (by decide)) (z 4 (by decide) (by decide) (by decide) (by decide)) g, IVt_cg (fun x q1 q2 => s1 x (by omega) (by omega) (by omega)) (fun x q1 q2 => s1 x (by omega) (by omega) (by omega)) s4 s5 t⟩
theorem IV_le {n k : Int} (hk : n ≤ k) (h : IV n m) : IV k m := IV_sam hk ⟨fun _ _ _ _ => rfl, fun _ _ _ _ _ => rfl, fun _ _ _ _ _ => rfl, h.2.2.2.2.2.2.2.2.1, h.2.2.2.2.2.2.2.2.2.1⟩ h
theorem IV_okT {n : Int} (h : IV n m) : okT m 31 := by
  obtain ⟨_, _, _, _, _, _, _, t1, t2, t3, t4, t5⟩ := h
  by_cases e : m 3 1 = 0
  · obtain ⟨z1, z2⟩ := t5 e
    obtain ⟨h1, h2, h3⟩ := t1
    exact ⟨by omega, by omega, h1.1, h2.2.2.1, h2.2.2.2, fun c q1 q2 => (h1.2 c q1 q2).2.2.2⟩
  · exact okT_St (t4 e)
theorem IV_PTS {n : Int} (h : IV n m) : PTS m 31 (ptR m 3).2 := by
  obtain ⟨_, _, _, _, _, _, _, t1, t2, t3, t4, t5⟩ := h
  intro p q1 q2
  by_cases e : m 3 1 = 0
  · have := t5 e
    omega
  · obtain ⟨p1, p2, p3, p4⟩ := (t4 e).2.1
    exact p4 p q1 (by omega)
theorem IV_cur {n : Int} (h : IV n m) : curE m 3 m := ⟨h.2.1.2.2.1.1, fun k q1 q2 => by have z := h.2.1.2.2.1.2 k q1 q2; exact ⟨z.1, z.2.1, z.2.2.1⟩⟩
theorem mkLX {mem mm : zMem} (hD : StD mem 3 mem 31) (hR : rwK mem 3) (hK : moK mm) (hc : curE mem 3 mm) (hM : ML mm (-1) (lpA mm (-1))) : LX mem mm := by
  have e := lp_pt hc
  refine ⟨hD, hR, ⟨hK, by rw [← e]; exact hM, e, fun l q1 q2 => ⟨hc.2 l q1 q2, ⟨q1, by rw [hc.1]; exact q2⟩, by show l ≠ -1; omega⟩, fun l k _ q2 _ => q2⟩, Or.inl ⟨rfl, hc.1.symm, fun _ => rfl⟩⟩
theorem IV_LX {n : Int} {mm : zMem} (h : IV n m) (hne : m 3 1 ≠ 0) (h82 : mm 82 = m 82) (h83 : mm 83 = m 83) (h84 : mm 84 = m 84) (h2 : mm 80 2 = m 80 2) (hM : ML mm (-1) (lpA m (-1))) : LX m mm := by
  have hK := h.2.1.2.1
  have hc := IV_cur h
  refine mkLX (h.2.2.2.2.2.2.2.2.2.2.1 hne) h.2.1.1 (by unfold moK; rw [h82, h83, h84, h2]; exact hK) ⟨by rw [h2]; exact hc.1, fun k q1 q2 => ?_⟩ (by rw [lpA_cg h82 h83 h84 h2]; exact hM)
  unfold rq
  rw [h82, h83, h84]
  exact hc.2 k q1 q2
theorem FRm_LX {n : Int} {mm : zMem} (h : IV n m) (hne : m 3 1 ≠ 0) (hF : FRm m mm) : LX m mm := IV_LX h hne (hF.2.1.1 82 (by decide) (by omega)) (hF.2.1.1 83 (by decide) (by omega)) (hF.2.1.1 84 (by decide) (by omega)) (hF.2.1.2 2 (by decide) (by decide) (by decide)) hF.1
theorem FRm_sam {n : Int} {mm : zMem} (h : IV n m) (hF : FRm m mm) : sam m mm := ⟨fun a q1 q2 q3 => hF.2.1.1 a (by omega) (by omega), fun a q1 q2 q3 q4 => hF.2.1.1 a (by omega) (by omega), fun k q1 q2 q3 q4 => hF.2.1.2 k q1 q2 q3, okI_fr (fun x q1 q2 => hF.2.1.1 x (by omega) (by omega)) h.2.2.2.2.2.2.2.2.1, FRm_S hF⟩
theorem FZ_sam {n : Int} {mm : zMem} (h : IV n m) (hF : FZ m mm) : IV (n + 1) mm := by
  rcases hF with ⟨_, rfl⟩ | ⟨_, hF⟩
  · exact IV_le (by omega) h
  · exact IV_sam (by omega) (FRm_sam h hF) h
end zIV
section zIS
variable {P : zCT → Prop} {mt : zMT} {sh : zSh} {u : Nat × Nat} {pc n : Nat} {L : List (Option zAV)} {st : List zAV} {mem : zMem} {Q : zQT} {a b : Int}
theorem zV_icmp_sm {off : Int} {tgt : Nat} (hd : decode mt.2.1 pc = .ok (.if_icmp .eq off, 3) ∧ pc + 3 = n ∧ (pc : Int) + off = (tgt : Int)) (he : a = b) (kt : zV P mt sh u tgt L st mem Q) : zV P mt sh u pc L ((0, b) :: (0, a) :: st) mem Q := by
  subst he
  intro X p l ev s m args below meth c Z hP C R H locs ls hH hl hL
  exact lv_icmp_eq C.1 C.2.1 hd.1 hd.2.2 (fun h => kt X p l ev s m args below meth c Z hP C R H locs ls hH hl hL) (fun h => absurd rfl h)
end zIS
