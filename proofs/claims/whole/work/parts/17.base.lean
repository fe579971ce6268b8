/-! truth values, kinds of the objects that there are several of -/
noncomputable def zb (c : Prop) : Int := @ite Int c (Classical.propDecidable c) 1 0
theorem zb_t {c : Prop} (h : c) : zb c = 1 := by unfold zb; exact if_pos h
theorem zb_f {c : Prop} (h : ¬ c) : zb c = 0 := by unfold zb; exact if_neg h
theorem zb_01 (c : Prop) : zb c = 0 ∨ zb c = 1 := by
  rcases Classical.em c with h | h
  · exact Or.inr (zb_t h)
  · exact Or.inl (zb_f h)
theorem zb_r (c : Prop) : I32 (zb c) := by rcases zb_01 c with h | h <;> rw [h] <;> exact ⟨by decide, by decide⟩
theorem zb_0 {c : Prop} : zb c = 0 ↔ ¬ c := ⟨fun h q => by rw [zb_t q] at h; exact absurd h (by decide), zb_f⟩
theorem zb_1 {c : Prop} : zb c = 1 ↔ c := ⟨fun h => Classical.byContradiction fun q => by rw [zb_f q] at h; exact absurd h (by decide), zb_t⟩
theorem zb_iff {c d : Prop} (h : c ↔ d) : zb c = zb d := by
  rcases Classical.em c with q | q
  · rw [zb_t q, zb_t (h.mp q)]
  · rw [zb_f q, zb_f (fun z => q (h.mpr z))]
section zBB
variable {P : zCT → Prop} {mt : zMT} {sh : zSh} {u : Nat × Nat} {pc n : Nat} {L : List (Option zAV)} {st : List zAV} {mem : zMem} {Q : zQT} 
theorem zV_ifb_eq {c : Prop} {off : Int} {tgt : Nat} (hd : decode mt.2.1 pc = .ok (.ifCond .eq off, 3) ∧ pc + 3 = n ∧ (pc : Int) + off = (tgt : Int)) (kt : ¬ c → zV P mt sh u tgt L st mem Q) (kf : c → zV P mt sh u n L st mem Q) : zV P mt sh u pc L ((0, zb c) :: st) mem Q :=
  zV_if_eq hd (zb_r c) (fun h => kt (zb_0.mp h)) (fun h => kf (Classical.byContradiction fun hc => h (zb_f hc)))
theorem zV_ifb_ne {c : Prop} {off : Int} {tgt : Nat} (hd : decode mt.2.1 pc = .ok (.ifCond .ne off, 3) ∧ pc + 3 = n ∧ (pc : Int) + off = (tgt : Int)) (kt : c → zV P mt sh u tgt L st mem Q) (kf : ¬ c → zV P mt sh u n L st mem Q) : zV P mt sh u pc L ((0, zb c) :: st) mem Q :=
  zV_if_ne hd (zb_r c) (fun h => kt (Classical.byContradiction fun hc => h (zb_f hc))) (fun h => kf (zb_0.mp h))
end zBB
def isSt (t : Int) : Prop := t = 31 ∨ t = 52
def isRw (t : Int) : Prop := t = 3 ∨ t = 9 ∨ t = 15
def isSe (t : Int) : Prop := t = 21 ∨ t = 26
theorem kSt0 {t : Int} (h : isSt t) : zkd zSH t = (9, 0) := by rcases h with rfl | rfl <;> rfl
theorem kSt1 {t : Int} (h : isSt t) : zkd zSH (t + 1) = (16, 12) := by rcases h with rfl | rfl <;> rfl
theorem kSt2 {t : Int} (h : isSt t) : zkd zSH (t + 2) = (12, 25) := by rcases h with rfl | rfl <;> rfl
theorem kSt3 {t : Int} (h : isSt t) : zkd zSH (t + 3) = (12, 100) := by rcases h with rfl | rfl <;> rfl
theorem kSt4 {t : Int} (h : isSt t) : zkd zSH (t + 4) = (14, 4) := by rcases h with rfl | rfl <;> rfl
theorem kSt5 {t : Int} (h : isSt t) : zkd zSH (t + 5) = (12, 4) := by rcases h with rfl | rfl <;> rfl
theorem kSt6 {t : Int} (h : isSt t) : zkd zSH (t + 6) = (12, 4) := by rcases h with rfl | rfl <;> rfl
theorem kSt7 {t : Int} (h : isSt t) : zkd zSH (t + 7) = (12, 4) := by rcases h with rfl | rfl <;> rfl
theorem kSt8 {t : Int} (h : isSt t) : zkd zSH (t + 8) = (12, 16) := by rcases h with rfl | rfl <;> rfl
theorem kRw0 {t : Int} (h : isRw t) : zkd zSH t = (7, 0) := by rcases h with rfl | rfl | rfl <;> rfl
theorem kRw1 {t : Int} (h : isRw t) : zkd zSH (t + 1) = (15, 4) := by rcases h with rfl | rfl | rfl <;> rfl
theorem kSe0 {t : Int} (h : isSe t) : zkd zSH t = (8, 0) := by rcases h with rfl | rfl <;> rfl
theorem kSe1 {t : Int} (h : isSe t) : zkd zSH (t + 1) = (12, 6) := by rcases h with rfl | rfl <;> rfl
theorem kSe2 {t : Int} (h : isSe t) : zkd zSH (t + 2) = (12, 6) := by rcases h with rfl | rfl <;> rfl
theorem kSe3 {t : Int} (h : isSe t) : zkd zSH (t + 3) = (12, 6) := by rcases h with rfl | rfl <;> rfl
theorem kSe4 {t : Int} (h : isSe t) : zkd zSH (t + 4) = (12, 6) := by rcases h with rfl | rfl <;> rfl
theorem four {i : Int} (h0 : 0 ≤ i) (h1 : i < 4) : i = 0 ∨ i = 1 ∨ i = 2 ∨ i = 3 := by omega
theorem kRwc {t i : Int} (h : isRw t) (h0 : 0 ≤ i) (h1 : i < 4) : zkd zSH (t + 2 + i) = (0, 0) := by
  rcases h with rfl | rfl | rfl <;> rcases four h0 h1 with rfl | rfl | rfl | rfl <;> rfl
/-- a root of the points of t -/
def isRo (t x : Int) : Prop := t + 9 ≤ x ∧ x < t + 21
theorem twelve {i : Int} (h0 : 0 ≤ i) (h1 : i < 12) : i = 0 ∨ i = 1 ∨ i = 2 ∨ i = 3 ∨ i = 4 ∨ i = 5 ∨ i = 6 ∨ i = 7 ∨ i = 8 ∨ i = 9 ∨ i = 10 ∨ i = 11 := by omega
theorem kRoc {t x : Int} (h : isSt t) (hx : isRo t x) : zkd zSH x = (6, 0) := by
  obtain ⟨i, rfl⟩ : ∃ i, x = t + 9 + i := ⟨x - (t + 9), by omega⟩
  have h0 : 0 ≤ i := by have := hx.1; omega
  have h1 : i < 12 := by have := hx.2; omega
  rcases h with rfl | rfl <;> rcases twelve h0 h1 with rfl | rfl | rfl | rfl | rfl | rfl | rfl | rfl | rfl | rfl | rfl | rfl <;> rfl
