/-! image and restore -/
theorem cps_v {mem : zMem} {t o : Int} (h : isSe t) (h2 : isSe o) (hto : t ≠ o) (hn : 0 ≤ mem o 4 ∧ mem o 4 ≤ 6) : cpS mem t o t 4 = mem o 4 ∧ (∀ a, (a < t ∨ t + 4 < a) → cpS mem t o a = mem a) ∧ ∀ l, 0 ≤ l → l < mem o 4 → cpS mem t o (t + 1) l = mem (o + 1) l ∧ cpS mem t o (t + 2) l = mem (o + 2) l ∧ cpS mem t o (t + 3) l = mem (o + 3) l ∧ cpS mem t o (t + 4) l = mem (o + 4) l := by
  have t9 : t = 21 ∨ t = 26 := h
  have o9 : o = 21 ∨ o = 26 := h2
  have hv := zfo_inv (f := fun j m => cpS1 m t o j) (fun j m => (∀ a, (a ≤ t ∨ t + 4 < a) → m a = mem a) ∧ ∀ l, 0 ≤ l → l < j → m (t + 1) l = mem (o + 1) l ∧ m (t + 2) l = mem (o + 2) l ∧ m (t + 3) l = mem (o + 3) l ∧ m (t + 4) l = mem (o + 4) l) (mem o 4 - 0).toNat 0 mem ⟨fun _ _ => rfl, fun l q1 q2 => by omega⟩ (fun j m q1 q2 h => by
    obtain ⟨h1, h2⟩ := h
    refine ⟨fun a ha => by unfold cpS1; rw [zup_a (by omega), zup_a (by omega), zup_a (by omega), zup_a (by omega)]; exact h1 a ha, fun l y1 y2 => ?_⟩
    unfold cpS1
    rw [zup_a (show t + 1 ≠ t + 4 by omega), zup_a (show t + 1 ≠ t + 3 by omega), zup_a (show t + 1 ≠ t + 2 by omega), zup_a (show t + 2 ≠ t + 4 by omega), zup_a (show t + 2 ≠ t + 3 by omega), zup_a (show t + 3 ≠ t + 4 by omega)]
    simp only [zup_f]
    by_cases e : l = j
    · rw [e, uf_s, uf_s, uf_s, uf_s, h1 (o + 1) (by omega), h1 (o + 2) (by omega), h1 (o + 3) (by omega), h1 (o + 4) (by omega)]
      exact ⟨rfl, rfl, rfl, rfl⟩
    · rw [uf_n e, uf_n e, uf_n e, uf_n e, zup_a (by omega), zup_a (by omega), zup_a (by omega), zup_a (by omega), zup_a (by omega), zup_a (by omega)]
      exact h2 l y1 (by omega))
  rw [show 0 + ((mem o 4 - 0).toNat : Int) = mem o 4 by omega] at hv
  obtain ⟨v1, v2⟩ := hv
  unfold cpS
  refine ⟨zup_s, fun a ha => by rw [zup_a (by omega)]; exact v1 a (by omega), fun l q1 q2 => ?_⟩
  rw [zup_a (by omega), zup_a (by omega), zup_a (by omega), zup_a (by omega)]
  exact v2 l q1 q2
