/-! both objects made: the memory that stands then, and the law from its first line -/
theorem arrV_cg {cI : ClassId} {N : Nat} {f g : Nat → Value} (h : ∀ k, k < N → f k = g k) : arrV cI N f = arrV cI N g := by
  have e : (fun j : Fin N => f j.val) = fun j : Fin N => g j.val := funext fun j => h j.val j.isLt
  unfold arrV
  rw [e]
theorem zH_15 {X : zCT} {sh : zSh} {mem mem' : zMem} {H : Heap} (h1 : ∀ (i : Nat) (q : Nat × Nat), sh[i]? = some q → q.1 ≠ 15 → mem' (i : Int) = mem (i : Int)) (h2 : ∀ (i m9 : Nat), sh[i]? = some (15, m9) → ∀ k : Nat, k < m9 → mem' (i : Int) (k : Int) = mem (i : Int) (k : Int)) (hH : zH X sh mem H) : zH X sh mem' H := by
  obtain ⟨hP, hs, hb⟩ := hH
  refine ⟨fun k x hx => ?_, hs, hb⟩
  rw [zW_get] at hx
  obtain ⟨q, hq, rfl⟩ := Option.map_eq_some_iff.mp hx
  have hz := hP k _ (by rw [zW_get, hq]; rfl)
  obtain ⟨c, m9⟩ := q
  by_cases e : c = 15
  · subst e
    have z : H[X.2.1.size + k]? = some (arrV (X.2.2.2.2.1 15) m9 (fun j => va_rf (zro X (mem (k : Int) (j : Int))))) := hz
    show H[X.2.1.size + k]? = some (arrV (X.2.2.2.2.1 15) m9 (fun j => va_rf (zro X (mem' (k : Int) (j : Int)))))
    have e9 : arrV (X.2.2.2.2.1 15) m9 (fun j => va_rf (zro X (mem (k : Int) (j : Int)))) = arrV (X.2.2.2.2.1 15) m9 (fun j => va_rf (zro X (mem' (k : Int) (j : Int)))) := arrV_cg (fun j hj => by
      show va_rf (zro X (mem (k : Int) (j : Int))) = va_rf (zro X (mem' (k : Int) (j : Int)))
      rw [h2 k m9 hq j hj])
    rw [z, e9]
  · have e2 : zE X mem' k (c, m9) = zE X mem k (c, m9) := by
      unfold zE
      rw [h1 k _ hq e]
    rw [e2]
    exact hz
theorem zV_cg {P : zCT → Prop} {mt : zMT} {sh : zSh} {u : Nat × Nat} {pc : Nat} {L : List (Option zAV)} {st : List zAV} {mem mem' : zMem} {Q : zQT} (h : ∀ X H, zH X sh mem H → zH X sh mem' H) (kk : zV P mt sh u pc L st mem' Q) : zV P mt sh u pc L st mem Q := fun X p l ev s m args below meth c Z hP C R H locs ls hH hl hL => kk X p l ev s m args below meth c Z hP C R H locs ls (h X H hH) hl hL
def mZ : zMem := fun _ _ => 0
def M0 : zMem := wMo_80 (zupA (wCp_0 (zupA mZ 0 (zblk 10))) 80 (zblk 11))
theorem zof_lt {c n : Nat} {o : Int} (h : zof c n = some o) : n < 34 := by
  unfold zof at h
  split at h <;> first | omega | cases h
def chZ (i n : Nat) : Bool := match zof (zkd zSH i).1 n with
  | some o => decide (M0 i n = i + o)
  | none => true
theorem chZ_ok : ∀ i : Fin 100, ∀ n : Fin 34, chZ i.val n.val = true := by decide +kernel
theorem M0_fix (i : Nat) (q : Nat × Nat) (hq : zSH[i]? = some q) (h15 : q.1 ≠ 15) : zov M0 (i : Int) = M0 (i : Int) := by
  have hi : i < 100 := (List.getElem?_eq_some_iff.mp hq).1
  have hk : zkd zSH (i : Int) = q := by
    show zSH.getD i (99, 0) = q
    rw [List.getD_eq_getElem?_getD, hq]
    rfl
  funext k
  cases hz : zst q.1 k with
  | none => exact zov_no (c := q.1) (m9 := q.2) (by rw [hk]) hz
  | some o =>
    rw [zov_st (c := q.1) (m9 := q.2) (by rw [hk]) hz]
    cases k with
    | negSucc n => cases hz
    | ofNat n =>
      have hz2 : zof q.1 n = some o := by
        have hz3 : (if q.1 = 15 then some (1 + (n : Int)) else zof q.1 n) = some o := hz
        rw [if_neg h15] at hz3
        exact hz3
      have z := chZ_ok ⟨i, hi⟩ ⟨n, zof_lt hz2⟩
      unfold chZ at z
      simp only [hk, hz2] at z
      exact (of_decide_eq_true z).symm
theorem M0_cg (X : zCT) (H : Heap) (h : zH X zSH M0 H) : zH X zSH (zov M0) H := by
  refine zH_15 M0_fix (fun i m9 hq k hk => ?_) h
  have hk15 : zkd zSH (i : Int) = (15, m9) := by
    show zSH.getD i (99, 0) = (15, m9)
    rw [List.getD_eq_getElem?_getD, hq]
    rfl
  rw [zov_st hk15 (zst_15 (by omega))]
  have hi : i < 100 := (List.getElem?_eq_some_iff.mp hq).1
  have hc : ∀ i : Fin 100, (zSH[i.val]? = some (15, 4) ∧ ∀ k : Fin 4, M0 (i.val : Int) (k.val : Int) = (i.val : Int) + (1 + (k.val : Int))) ∨ (zSH.getD i.val (99, 0)).1 ≠ 15 := by decide +kernel
  rcases hc ⟨i, hi⟩ with z | z
  · have e : m9 = 4 := by
      have z1 : zSH[i]? = some (15, 4) := z.1
      rw [hq] at z1
      cases z1
      rfl
    exact (z.2 ⟨k, by omega⟩).symm
  · exfalso
    apply z
    rw [List.getD_eq_getElem?_getD, hq]
    rfl
theorem M0_rt31 : RT M0 31 := by
  have h : ∀ p, 0 ≤ p → p < 12 → M0 (31 + 1) p = 40 + p := by
    intro p q1 q2
    have e : p = 0 ∨ p = 1 ∨ p = 2 ∨ p = 3 ∨ p = 4 ∨ p = 5 ∨ p = 6 ∨ p = 7 ∨ p = 8 ∨ p = 9 ∨ p = 10 ∨ p = 11 := by omega
    rcases e with rfl | rfl | rfl | rfl | rfl | rfl | rfl | rfl | rfl | rfl | rfl | rfl <;> decide +kernel
  refine ⟨fun p q1 q2 => ?_, fun p q q1 q2 q3 => ?_⟩
  · rw [h p q1 q2]
    show 31 + 9 ≤ 40 + p ∧ 40 + p < 31 + 21
    omega
  · rw [h p q1 (by omega), h q (by omega) q3]
    omega
theorem M0_rt52 : RT M0 52 := by
  have h : ∀ p, 0 ≤ p → p < 12 → M0 (52 + 1) p = 61 + p := by
    intro p q1 q2
    have e : p = 0 ∨ p = 1 ∨ p = 2 ∨ p = 3 ∨ p = 4 ∨ p = 5 ∨ p = 6 ∨ p = 7 ∨ p = 8 ∨ p = 9 ∨ p = 10 ∨ p = 11 := by omega
    rcases e with rfl | rfl | rfl | rfl | rfl | rfl | rfl | rfl | rfl | rfl | rfl | rfl <;> decide +kernel
  refine ⟨fun p q1 q2 => ?_, fun p q q1 q2 q3 => ?_⟩
  · rw [h p q1 q2]
    show 52 + 9 ≤ 61 + p ∧ 61 + p < 52 + 21
    omega
  · rw [h p q1 (by omega), h q (by omega) q3]
    omega
set_option maxRecDepth 20000 in
theorem M0_I31 : okI M0 31 := by
  have a3 : M0 31 3 = 0 := by decide +kernel
  have z2 : ∀ x, M0 (31 + 2) x = 0 := fun x => rfl
  have z3 : ∀ x, M0 (31 + 3) x = 0 := fun x => rfl
  have z4 : ∀ x, M0 (31 + 4) x = 0 := fun x => rfl
  have z5 : ∀ x, M0 (31 + 5) x = 0 := fun x => rfl
  have z6 : ∀ x, M0 (31 + 6) x = 0 := fun x => rfl
  have z7 : ∀ x, M0 (31 + 7) x = 0 := fun x => rfl
  have z8 : ∀ x, M0 (31 + 8) x = 0 := fun x => rfl
  refine ⟨⟨by rw [a3]; decide, fun c _ _ => ?_⟩, ⟨fun x _ _ => ?_, fun x _ _ => z8 _, fun x _ _ => ?_, fun x _ _ => ?_⟩, M0_rt31⟩
  · rw [z4, z5, z6, z7]
    decide
  · rw [z8]; decide
  · rw [z2]; decide
  · rw [z3]; decide
set_option maxRecDepth 20000 in
theorem M0_I52 : okI M0 52 := by
  have a3 : M0 52 3 = 0 := by decide +kernel
  have z2 : ∀ x, M0 (52 + 2) x = 0 := fun x => rfl
  have z3 : ∀ x, M0 (52 + 3) x = 0 := fun x => rfl
  have z4 : ∀ x, M0 (52 + 4) x = 0 := fun x => rfl
  have z5 : ∀ x, M0 (52 + 5) x = 0 := fun x => rfl
  have z6 : ∀ x, M0 (52 + 6) x = 0 := fun x => rfl
  have z7 : ∀ x, M0 (52 + 7) x = 0 := fun x => rfl
  have z8 : ∀ x, M0 (52 + 8) x = 0 := fun x => rfl
  refine ⟨⟨by rw [a3]; decide, fun c _ _ => ?_⟩, ⟨fun x _ _ => ?_, fun x _ _ => z8 _, fun x _ _ => ?_, fun x _ _ => ?_⟩, M0_rt52⟩
  · rw [z4, z5, z6, z7]
    decide
  · rw [z8]; decide
  · rw [z2]; decide
  · rw [z3]; decide
set_option maxRecDepth 20000 in
theorem M0_iv : IV 0 M0 := by
  have a11 : M0 1 1 = 0 := by decide +kernel
  have a801 : M0 80 1 = 0 := by decide +kernel
  have a31 : M0 3 1 = 0 := by decide +kernel
  have a802 : M0 80 2 = 0 := by decide +kernel
  have a214 : M0 21 4 = 0 := by decide +kernel
  have a8022 : M0 80 22 = 0 := by decide +kernel
  have a012 : M0 0 12 = 0 := by decide +kernel
  have a91 : M0 9 1 = 0 := by decide +kernel
  have a264 : M0 26 4 = 0 := by decide +kernel
  have a8025 : M0 80 25 = -1 := by decide +kernel
  have a803 : M0 80 3 = 0 := by decide +kernel
  have a8024 : M0 80 24 = 1 := by decide +kernel
  have a770 : M0 77 0 = 1 := by decide +kernel
  have a781 : M0 78 1 = 0 := by decide +kernel
  have a782 : M0 78 2 = 0 := by decide +kernel
  have a8020 : M0 80 20 = 0 := by decide +kernel
  have a8018 : M0 80 18 = 0 := by decide +kernel
  have a804 : M0 80 4 = 1 := by decide +kernel
  have a013 : M0 0 13 = 0 := by decide +kernel
  have a014 : M0 0 14 = 0 := by decide +kernel
  have a015 : M0 0 15 = 1 := by decide +kernel
  have a809 : M0 80 9 = 0 := by decide +kernel
  have a311 : M0 31 1 = 0 := by decide +kernel
  have a312 : M0 31 2 = 0 := by decide +kernel
  have z82 : ∀ x, M0 82 x = 0 := fun x => rfl
  have z83 : ∀ x, M0 83 x = 0 := fun x => rfl
  have z84 : ∀ x, M0 84 x = 0 := fun x => rfl
  have z85 : ∀ x, M0 85 x = 0 := fun x => rfl
  have z95 : ∀ x, M0 95 x = 0 := fun x => rfl
  have z96 : ∀ x, M0 96 x = 0 := fun x => rfl
  have z97 : ∀ x, M0 97 x = 0 := fun x => rfl
  have z98 : ∀ x, M0 98 x = 0 := fun x => rfl
  have z79 : ∀ x, M0 79 x = 0 := fun x => rfl
  have z92 : ∀ x, M0 92 x = 0 := fun x => rfl
  refine ⟨⟨by rw [a11]; decide, by rw [a11, a801], fun i q1 q2 => by rw [a11] at q2; omega⟩, ⟨⟨by rw [a31]; decide, fun k q1 q2 => by rw [a31] at q2; omega⟩, ⟨by rw [a802]; decide, fun k _ _ => by rw [z82, z83, z84]; decide⟩, ⟨by rw [a802, a31], fun k q1 q2 => by rw [a31] at q2; omega⟩, fun k _ _ => by rw [z85]; decide⟩, ⟨⟨by rw [a214]; decide, fun k q1 q2 => by rw [a214] at q2; omega⟩, by rw [a8022, a214], fun k q1 q2 => by rw [a214] at q2; omega⟩, ⟨Or.inl a012, ⟨by rw [a91]; decide, fun k q1 q2 => by rw [a91] at q2; omega⟩, ⟨by rw [a264]; decide, fun k q1 q2 => by rw [a264] at q2; omega⟩, fun q => by rw [a012] at q; exact absurd q (by decide), ⟨fun q => by rw [a012] at q; exact absurd q (by decide), fun q => by rw [a8025, a803] at q; exact absurd q (by decide)⟩, by rw [a8025, a803]; decide, fun k _ _ => by rw [z95, z96, z97, z98]; decide⟩, ⟨by rw [a8024, a770], by rw [a770]; decide, by rw [a770]; decide⟩, ⟨by rw [a781]; decide, by rw [a782]; decide, by rw [a8020, a782], fun i _ _ => by rw [z79]; decide, fun i _ _ => by rw [z92]; decide, fun i q1 q2 => by rw [a782] at q2; omega⟩, ⟨by rw [a803, a013], by rw [a8018, a014], by rw [a804, a015], by rw [a013]; decide, by rw [a014]; decide, by rw [a015]; decide, by rw [a015]; decide⟩, M0_I31, M0_I52, ⟨Or.inl a809, fun _ q => absurd a802 q⟩, fun q => absurd a31 q, fun _ => ⟨a311, a312⟩⟩
theorem s_La_0 {P : zCT → Prop} {m9 : Nat} {xs : Nat → Int32} (hS : ∀ X, P X → X.2.2.2.2.2.1 = m9 ∧ X.2.2.2.2.2.2 = xs) (hm : m9 ≤ 100000) : zV P m_La_law [] (0, 0) 0 [some (2, -2), none, none, none] [] mZ (zQs (fun r _ => r = some (0, 1))) := by
  refine zV_new (nI := 0) d_La_law_0 c_La_7 rfl ⟨by decide, by decide⟩ ?_
  show zV P m_La_law (zSH.take 1) (1, 16) 3 [some (2, -2), none, none, none] [(2, 0)] _ _
  refine zV_dup d_La_law_3 (by decide) ?_
  refine zV_invi m_Cp_init [] d_La_law_4 (Or.inl l_La_9) k_Cp_init rfl (by decide) rfl rfl rfl rfl (i_Cp_0 _) (fun r9 sh9 m9 hq9 => ?_)
  obtain ⟨rfl, rfl, rfl⟩ := hq9
  show zV P m_La_law (zSH.take 80) (80, 867) 7 [some (2, -2), none, none, none] [(2, 0)] _ _
  refine zV_astore_n (L' := [some (2, -2), some (2, 0), none, none]) d_La_law_7 (by decide) rfl ?_
  refine zV_new (nI := 80) d_La_law_8 c_La_10 rfl ⟨by decide, by decide⟩ ?_
  show zV P m_La_law (zSH.take 81) (81, 901) 11 [some (2, -2), some (2, 0), none, none] [(2, 80)] _ _
  refine zV_dup d_La_law_11 (by decide) ?_
  refine zV_invi m_Mo_init [] d_La_law_12 (Or.inl l_La_12) k_Mo_init rfl (by decide) rfl rfl rfl rfl (i_Mo_80 _) (fun r9 sh9 m9 hq9 => ?_)
  obtain ⟨rfl, rfl, rfl⟩ := hq9
  show zV P m_La_law (zSH.take 100) (100, 1829) 15 [some (2, -2), some (2, 0), none, none] [(2, 80)] _ _
  refine zV_astore_n (L' := [some (2, -2), some (2, 0), some (2, 80), none]) d_La_law_15 (by decide) rfl ?_
  refine zV_iconst d_La_law_16 ?_
  refine zV_istore_n (L' := [some (2, -2), some (2, 0), some (2, 80), some (0, 0)]) d_La_law_17 (by decide) rfl ?_
  show zV P m_La_law zSH (100, 1829) 18 [some (2, -2), some (2, 0), some (2, 80), some (0, 0)] [] M0 _
  exact zV_cg M0_cg (s_La_18 hS hm 0 0 M0 ⟨by decide, by decide, by decide, by decide⟩ M0_iv)
