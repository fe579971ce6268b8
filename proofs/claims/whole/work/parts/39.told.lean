/-! what a built Stacks object holds, told by its row alone -/
noncomputable def rowM (mem : zMem) (o : Int) : zMem := fun a k => if a = 0 then (if k = 3 then mem o 1 else 0) else if a = 4 then zb (mem (o + 2 + k) 0 = 3) else if a = 5 then sqK (mem (o + 2 + k) 0) else if a = 6 then slK (mem (o + 2 + k) 0) (mem (o + 2 + k) 1) else mem (o + 2 + k) 2
def Cg (m : zMem) (t : Int) (m' : zMem) (t' n : Int) : Prop := (m t 3 = n ∧ m' t' 3 = n) ∧ ∀ k, 0 ≤ k → k < n → m (t + 4) k = m' (t' + 4) k ∧ m (t + 5) k = m' (t' + 5) k ∧ m (t + 6) k = m' (t' + 6) k ∧ m (t + 7) k = m' (t' + 7) k
theorem zfo_cong {σ : Type} {f g : Int → σ → σ} : ∀ (k : Nat) (i : Int) (s : σ), (∀ j s, i ≤ j → j < i + k → f j s = g j s) → zfo f k i s = zfo g k i s
  | 0, _, _, _ => rfl
  | k + 1, i, s, h => by
    unfold zfo
    rw [h i s (by omega) (by omega)]
    exact zfo_cong k (i + 1) _ (fun j s q1 q2 => h j s (by omega) (by omega))
theorem meP_cg {m m' : zMem} {t t' n : Int} (h : Cg m t m' t' n) (s : PtS) {a b : Int} (ha : 0 ≤ a ∧ a < n) (hb : 0 ≤ b ∧ b < n) : meP m t s a b = meP m' t' s a b := by
  obtain ⟨a4, a5, a6, a7⟩ := h.2 a ha.1 ha.2
  obtain ⟨b4, b5, b6, b7⟩ := h.2 b hb.1 hb.2
  unfold meP
  rw [a4, a5, a6, a7, b4, b5, b6, b7]
theorem allP_cg {m m' : zMem} {t t' n : Int} (h : Cg m t m' t' n) (s : PtS) : allP m t s = allP m' t' s := by
  unfold allP
  rw [h.1.1, h.1.2]
  refine zfo_cong _ _ _ (fun a s q1 q2 => ?_)
  have ha : 0 ≤ a ∧ a < n := by omega
  obtain ⟨a4, a5, a6, a7⟩ := h.2 a ha.1 ha.2
  unfold stO
  rw [a4, a7]
  exact zfo_cong _ _ _ (fun b s y1 y2 => meP_cg h s ha (by omega))
theorem FS_cg {m m' : zMem} {t t' n : Int} (h : Cg m t m' t' n) (pt : Int → Pt) (s : Int) {a b : Int} (ha : 0 ≤ a ∧ a < n) (hb : 0 ≤ b ∧ b < n) : FS m t pt s a b = FS m' t' pt s a b := by
  obtain ⟨a4, a5, a6, a7⟩ := h.2 a ha.1 ha.2
  obtain ⟨b4, b5, b6, b7⟩ := h.2 b hb.1 hb.2
  unfold FS
  by_cases e0 : s = 0
  · rw [if_pos e0, if_pos e0]
    unfold farL
    rw [a5, a6, a7, b5, b6, b7]
  · rw [if_neg e0, if_neg e0]
    by_cases e1 : s % 2 = 1
    · rw [if_pos e1, if_pos e1]
      unfold stM
      rw [a5, a6, a7, b5, b6, b7]
    · rw [if_neg e1, if_neg e1]
      unfold goM stM
      rw [a5, a6, a7, b5, b6, b7]
theorem wF_cg {F G : Int → Int → Int} {n : Int} (h : ∀ a b, 0 ≤ a → a < n → 0 ≤ b → b < n → F a b = G a b) {c o : Int} (hc : 0 ≤ c ∧ c < n) (ho : 0 ≤ o ∧ o < n) : wF F c o = wF G c o := by
  unfold wF
  rw [h c o hc.1 hc.2 ho.1 ho.2, h o c ho.1 ho.2 hc.1 hc.2]
theorem isM_cg {u v : Int → Int} {w z : Int → Int → Int} {n : Int} (hu : ∀ k, 0 ≤ k → k < n → u k = v k) (hw : ∀ c o, 0 ≤ c → c < n → 0 ≤ o → o < n → w c o = z c o) {c : Int} (hc : 0 ≤ c ∧ c < n) : isM u w c ↔ isM v z c := by
  unfold isM
  constructor
  · rintro ⟨a, b⟩
    exact ⟨by rw [← hu c hc.1 hc.2]; exact a, fun o q1 q2 q3 => by rw [← hw c o hc.1 hc.2 q1 (by omega)]; exact b o q1 q2 (by rw [hu o q1 (by omega)]; exact q3)⟩
  · rintro ⟨a, b⟩
    exact ⟨by rw [hu c hc.1 hc.2]; exact a, fun o q1 q2 q3 => by rw [hw c o hc.1 hc.2 q1 (by omega)]; exact b o q1 q2 (by rw [← hu o q1 (by omega)]; exact q3)⟩
theorem bwM_cg {u v : Int → Int} {w z : Int → Int → Int} {n : Int} (hu : ∀ k, 0 ≤ k → k < n → u k = v k) (hw : ∀ c o, 0 ≤ c → c < n → 0 ≤ o → o < n → w c o = z c o) {c : Int} (hc : 0 ≤ c ∧ c < n) : bwM n u w c = bwM n v z c := by
  unfold bwM
  refine zsm_cong _ _ (fun j q1 q2 => ?_)
  have hj : 0 ≤ j ∧ j < n := by omega
  show zb _ = zb _
  apply zb_iff
  rw [hw c j hc.1 hc.2 hj.1 hj.2, isM_cg hu hw hj]
theorem nsM_cg {u v : Int → Int} {w z : Int → Int → Int} {n : Int} (hu : ∀ k, 0 ≤ k → k < n → u k = v k) (hw : ∀ c o, 0 ≤ c → c < n → 0 ≤ o → o < n → w c o = z c o) : nsM n u w = nsM n v z := by
  unfold nsM
  refine zsm_cong _ _ (fun j q1 q2 => ?_)
  have hj : 0 ≤ j ∧ j < n := by omega
  show zb _ = zb _
  exact zb_iff (isM_cg hu hw hj)
/-- the points of a row -/
noncomputable def ptR (mem : zMem) (o : Int) : PtS := allP (rowM mem o) 0 (0, fun _ => (0, 0, 0, 1))
noncomputable def wR (mem : zMem) (o s : Int) : Int → Int → Int := wF (FS (rowM mem o) 0 (ptR mem o).2 s)
/-- the top of a stack; the place of a curve in it -/
noncomputable def tpR (mem : zMem) (o s : Int) : Int := 2 * nsM (mem o 1) (rowM mem o 4) (wR mem o s)
noncomputable def plR (mem : zMem) (o s c : Int) : Int := if mem (o + 2 + c) 0 = 3 then stA (ptR mem o).2 (ptR mem o).1 (mem (o + 2 + c) 2) else 2 * bwM (mem o 1) (rowM mem o 4) (wR mem o s) c + 1
/-- the invariant of a Stacks object -/
def okI (m : zMem) (t : Int) : Prop := okC m t ∧ okB m t ∧ RT m t
/-- m holds at t the stacks of the row that mem has at o -/
def StD (mem : zMem) (o : Int) (m : zMem) (t : Int) : Prop := okI m t ∧ PS m t (ptR mem o) ∧ m t 2 = 2 * (ptR mem o).1 + 1 ∧ m t 3 = mem o 1 ∧ (∀ c, 0 ≤ c → c < mem o 1 → m (t + 4) c = zb (mem (o + 2 + c) 0 = 3)) ∧ ∀ s, 0 ≤ s → s < 2 * (ptR mem o).1 + 1 → m (t + 2) s = tpR mem o s ∧ ∀ c, 0 ≤ c → c < mem o 1 → m (t + 3) (4 * s + c) = plR mem o s c
def frS (t : Int) (mem m : zMem) : Prop := ∀ x, (x < t ∨ t + 21 ≤ x) → m x = mem x
