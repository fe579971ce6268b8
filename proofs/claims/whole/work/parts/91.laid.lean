/-! any curves can be laid: so the class's stacks are bounded before the reference lays its own -/
theorem fl_bis {P : Pt} {t : Int} : ∀ (k : Nat) (lo : Int), 0 ≤ cmF P lo t → cmF P (lo + k) t < 0 → ∃ v, 0 ≤ cmF P v t ∧ cmF P (v + 1) t < 0 ∧ lo ≤ v ∧ v < lo + k
  | 0, lo, h1, h2 => by
    rw [show lo + ((0 : Nat) : Int) = lo by omega] at h2
    omega
  | k + 1, lo, h1, h2 => by
    by_cases e : cmF P (lo + 1) t < 0
    · exact ⟨lo, h1, e, by omega, by omega⟩
    · obtain ⟨v, a, b, c, d⟩ := fl_bis (P := P) (t := t) k (lo + 1) (by omega) (by rw [show lo + 1 + (k : Int) = lo + ((k + 1 : Nat) : Int) by omega]; exact h2)
      exact ⟨v, a, b, by omega, by omega⟩
theorem fl_ex {P : Pt} {t : Int} (hP : okQ P) (ht : 0 < t) : ∃ v, flR P t v := by
  obtain ⟨f1, f2⟩ := cm_far hP ht
  obtain ⟨v, a, b, c, d⟩ := fl_bis (P := P) (t := t) (200 * t).toNat (-100 * t) (by omega) (by rw [show -100 * t + ((200 * t).toNat : Int) = 100 * t by omega]; omega)
  exact ⟨v, a, b, by omega, by omega⟩
theorem sm_ex {s : PtS} {k : Int} (hA : okA s) (hS : Srt s) (hk : 0 ≤ k ∧ k ≤ s.1) : ∃ P, SM s k P := by
  by_cases e0 : s.1 ≤ 0
  · exact ⟨_, sm_0 e0 k⟩
  by_cases e1 : k = 0
  · obtain ⟨v, hv⟩ := fl_ex (t := 1) (hA.2 0 (by omega) (by omega)) (by decide)
    exact ⟨_, by rw [e1]; exact sm_a hA hS (by omega) hv⟩
  by_cases e2 : k = s.1
  · obtain ⟨v, hv⟩ := fl_ex (t := 1) (hA.2 (s.1 - 1) (by omega) (by omega)) (by decide)
    exact ⟨_, by rw [e2]; exact sm_z hA hS (by omega) hv⟩
  obtain ⟨v, hv⟩ := fl_ex (t := 4194304) (hA.2 (k - 1) (by omega) (by omega)) (by decide)
  refine ⟨_, sm_m hA hS ⟨by omega, by omega⟩ ⟨by decide, by decide⟩ hv ?_⟩
  apply Int.not_le.mp
  intro h
  exact absurd (sm_end hA hS ⟨by omega, by omega⟩ ⟨by decide, by decide⟩ hv h) (by decide)
noncomputable def exP (s : PtS) (F : Int → Pt) (k : Int) : Pt := if k < 20 then s.2 k else if (k - 20) % 2 = 1 then s.2 ((k - 20) / 2) else F ((k - 20) / 2)
noncomputable def exA (mem : zMem) (s : PtS) (F : Int → Pt) : zMem := fun a k => if a = 86 then (exP s F k).1 else if a = 87 then (exP s F k).2.1 else if a = 88 then (exP s F k).2.2.1 else if a = 89 then (exP s F k).2.2.2 else if a = 80 ∧ k = 14 then s.1 else if a = 80 ∧ k = 15 then 2 * s.1 + 1 else mem a k
noncomputable def exB (m : zMem) : zMem := fun a k => if a = 91 then scM m (-1) k else if a = 90 then rkM m (-1) (k / 4) (k % 4) else m a k
theorem exA_P {mem : zMem} {s : PtS} {F : Int → Pt} (k : Int) : mP (exA mem s F) k = exP s F k := rfl
theorem exA_o {mem : zMem} {s : PtS} {F : Int → Pt} {a k : Int} (h : a < 86 ∨ 89 < a) (h1 : ¬ (a = 80 ∧ k = 14)) (h2 : ¬ (a = 80 ∧ k = 15)) : exA mem s F a k = mem a k := by
  unfold exA
  rw [if_neg (by omega), if_neg (by omega), if_neg (by omega), if_neg (by omega), if_neg h1, if_neg h2]
theorem exB_E (m : zMem) : rdE m (exB m) := fun a h1 h2 => by
  funext k
  unfold exB
  rw [if_neg h2, if_neg h1]
theorem ex_ML {mem : zMem} (hK : moK mem) : ∃ mm, ML mm (-1) (lpA mem (-1)) ∧ frL mem mm := by
  obtain ⟨⟨hA, hS⟩, hB, _, _⟩ := lpA_h (out := -1) hK
  have h12 : (lpA mem (-1)).1 ≤ 12 := by
    rcases hB with z | z | z | z | z <;> omega
  obtain ⟨F, hF⟩ : ∃ F : Int → Pt, ∀ k, 0 ≤ k → k ≤ (lpA mem (-1)).1 → SM (lpA mem (-1)) k (F k) := by
    refine ⟨fun k => if h : 0 ≤ k ∧ k ≤ (lpA mem (-1)).1 then Classical.choose (sm_ex hA hS h) else (0, 0, 0, 1), fun k q1 q2 => ?_⟩
    show SM _ k (if h : 0 ≤ k ∧ k ≤ (lpA mem (-1)).1 then Classical.choose (sm_ex hA hS h) else (0, 0, 0, 1))
    rw [dif_pos ⟨q1, q2⟩]
    exact Classical.choose_spec (sm_ex hA hS ⟨q1, q2⟩)
  generalize hs : lpA mem (-1) = s at *
  have hE := exB_E (exA mem s F)
  have e2 : exB (exA mem s F) 80 2 = mem 80 2 := by
    rw [hE 80 (by decide) (by decide)]
    exact exA_o (by omega) (by omega) (by omega)
  have hL : LSm (exA mem s F) s (2 * s.1 + 1) := by
    refine ⟨⟨?_, h12, fun k q1 q2 => ?_⟩, ?_, fun j q1 q2 => ⟨fun q => ?_, fun q => ?_⟩⟩
    · show (if (80 : Int) = 86 then _ else _) = _
      rw [if_neg (by decide), if_neg (by decide), if_neg (by decide), if_neg (by decide), if_pos ⟨rfl, rfl⟩]
    · rw [exA_P]
      unfold exP
      rw [if_pos (by omega)]
    · show (if (80 : Int) = 86 then _ else _) = _
      rw [if_neg (by decide), if_neg (by decide), if_neg (by decide), if_neg (by decide), if_neg (by decide), if_pos ⟨rfl, rfl⟩]
    · rw [exA_P]
      unfold exP
      rw [if_neg (by omega), show 20 + j - 20 = j by omega, if_pos q]
    · rw [exA_P]
      unfold exP
      rw [if_neg (by omega), show 20 + j - 20 = j by omega, if_neg (by omega)]
      exact hF (j / 2) (by omega) (by omega)
  refine ⟨exB (exA mem s F), ⟨hA, hS, LS_E hE hL, fun n q1 q2 => ⟨?_, fun k q3 q4 => ?_⟩⟩, fun a q1 q2 => ?_, fun k q1 q2 => ?_⟩
  · rw [sc_E hE]
    unfold exB
    rw [if_pos rfl]
  · have k4 := hK.1
    rw [e2] at q4
    rw [rk_E hE]
    unfold exB
    rw [if_neg (by decide), if_pos rfl, show (4 * n + k) / 4 = n by omega, show (4 * n + k) % 4 = k by omega]
  · rw [hE a (by omega) (by omega)]
    funext k
    exact exA_o (by omega) (by omega) (by omega)
  · rw [hE 80 (by decide) (by decide)]
    exact exA_o (by omega) (by omega) (by omega)
theorem IV_hb {n : Int} {mem : zMem} (h : IV n mem) : hbX mem 31 := by
  by_cases e : mem 3 1 = 0
  · have z := h.2.2.2.2.2.2.2.2.2.2.2 e
    intro s j b q1 q2
    omega
  · obtain ⟨mm, h1, h2⟩ := ex_ML h.2.1.2.1
    exact LX_hb (IV_LX h e (h2.1 82 (by decide) (by omega)) (h2.1 83 (by decide) (by omega)) (h2.1 84 (by decide) (by omega)) (h2.2 2 (by decide) (by decide)) h1)
