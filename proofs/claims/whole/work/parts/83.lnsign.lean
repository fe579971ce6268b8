/-! signs at stacks are those at samples -/
theorem vq_neg (p : Pt) (A B C N : Int) : vq p (-A) (-B) (-C) N = -vq p A B C N := by
  unfold vq
  generalize rsq p.2.2.1 N = r
  grind
theorem sgP_n {p : Pt} (hp : pk p) (A B C : Int) : sgP p (-A) (-B) (-C) = -sgP p A B C := sSg_uq (sgP_ok hp _ _ _) (sSg_eq (fun N _ => (vq_neg p A B C N).symm) (sSg_neg (sgP_ok hp A B C)))
theorem sgP_a {p : Pt} {A B C A' B' C' s t : Int} (hp : pk p) (h1 : sgP p A B C = s) (h2 : sgP p A' B' C' = t) (h : t = 0 ∨ s = t) : sgP p (A + A') (B + B') (C + C') = s := by
  have o1 := sgP_ok hp A B C
  have o2 := sgP_ok hp A' B' C'
  rw [h1] at o1
  rw [h2] at o2
  exact sSg_uq (sgP_ok hp _ _ _) (sSg_eq (fun N _ => (vq_add p A B C A' B' C' N).symm) (sSg_add2 o1 o2 h))
theorem hasR_n {s : PtS} {a b c : Int} (h : hasR s a b c) : hasR s (-a) (-b) (-c) := by
  have ed : -b * -b - 4 * -a * -c = b * b - 4 * a * c := by grind
  refine ⟨fun q1 q2 => ?_, fun q1 q2 => ?_⟩
  · obtain ⟨R, z1, z2⟩ := h.1 (by omega) (by omega)
    refine ⟨R, ⟨z1.1, fun N hN => ?_⟩, z2⟩
    have := z1.2 N hN
    grind
  · rw [ed] at q2 ⊢
    obtain ⟨U, W, z1, z2, z3, z4⟩ := h.2 (by omega) q2
    have t1 : tn (2 * -a) = -tn (2 * a) := by rw [show 2 * -a = -(2 * a) by omega]; exact tn_neg (by omega)
    have cv : ∀ {k : Int} {R : Pt}, rtQ a b (b * b - 4 * a * c) k R → rtQ (-a) (-b) (b * b - 4 * a * c) k R := fun {k R} z => by
      refine ⟨z.1, by rw [z.2.1, t1]; grind, fun N hN => ?_⟩
      rw [z.2.2 N hN, t1]
      grind
    exact ⟨U, W, cv z1, cv z2, z3, z4⟩
section zLNK
variable {s : PtS} {P : Pt} {i A B C : Int}
theorem SM_k (h : SM s i P) : pk P := ⟨by rw [h.1.2]; decide, h.2.1.1⟩
/-- a root lies on one side of the sample -/
theorem SM_r {R : Pt} (hA : okA s) (h : SM s i P) (hR : pk R) (hh : has s R) : ∃ j, 0 ≤ j ∧ j < s.1 ∧ ordP (s.2 j) R = 0 ∧ ordP R (s.2 j) = 0 ∧ (j < i → ordP R P = -1 ∧ ordP P R = 1) ∧ (i ≤ j → ordP P R = -1 ∧ ordP R P = 1) := by
  obtain ⟨j, j0, j1, hj⟩ := hh
  have kj := pk_ok (hA.2 j j0 j1).1
  have kP := SM_k h
  have e0 : ordP R (s.2 j) = 0 := by rw [ord_sy kj hR, hj]; rfl
  refine ⟨j, j0, j1, hj, e0, fun q => ?_, fun q => ?_⟩
  · have z := ord_tr2 hR kj kP e0 (h.2.2.2.1 j j0 q j1) (Or.inl rfl)
    exact ⟨z, by rw [ord_sy hR kP, z]; rfl⟩
  · have z := ord_tr kP kj hR (h.2.2.2.2 j j0 q j1) hj (Or.inl rfl)
    exact ⟨z, by rw [ord_sy kP hR, z]; rfl⟩
theorem ord_ix {j l : Int} (hA : okA s) (hS : Srt s) (hj : 0 ≤ j ∧ j < s.1) (hl : 0 ≤ l ∧ l < s.1) : ordP (s.2 j) (s.2 l) = cmpI j l := by
  have kj := pk_ok (hA.2 j hj.1 hj.2).1
  have kl := pk_ok (hA.2 l hl.1 hl.2).1
  unfold cmpI
  by_cases h1 : j < l
  · rw [if_pos h1]; exact hS j l hj.1 h1 hl.2
  · rw [if_neg h1]
    by_cases h2 : j = l
    · rw [if_pos h2, h2]; exact ord_rf kl
    · rw [if_neg h2, ord_sy kl kj, hS l j hl.1 (by omega) hj.2]; rfl
theorem str_all (hA : okA s) (hS : Srt s) (h : SM s i P) (hi : 0 < i ∧ i ≤ s.1) (hR : hasR s A B C) : goS (s.2 (i - 1)) A B C = sgP P A B C := by
  have ka := pk_ok (hA.2 (i - 1) (by omega) (by omega)).1
  have kP := SM_k h
  have har := h.2.2.2.1 (i - 1) (by omega) (by omega) (by omega)
  have side : ∀ R, pk R → has s R → ordP R (s.2 (i - 1)) ≤ 0 ∨ ordP P R = -1 := fun R kR hh => by
    obtain ⟨j, j0, j1, e1, e2, e3, e4⟩ := SM_r hA h kR hh
    by_cases q : i ≤ j
    · exact Or.inr (e4 q).1
    · left
      have z := ord_tr2 kR (pk_ok (hA.2 j j0 j1).1) ka e2 (ord_ix hA hS ⟨j0, j1⟩ ⟨by omega, by omega⟩) (Or.inl rfl)
      rw [z]
      unfold cmpI
      (repeat' split) <;> omega
  by_cases hA0 : A = 0
  · subst hA0
    by_cases hB0 : B = 0
    · subst hB0; exact str_c ka kP C
    · obtain ⟨R, z1, z2⟩ := hR.1 rfl hB0
      exact str_l hB0 z1 ka kP har (side R z1.1 z2)
  · by_cases hD : 0 ≤ B * B - 4 * A * C
    · obtain ⟨U, W, z1, z2, z3, z4⟩ := hR.2 hA0 hD
      exact str_q hA0 hD z1 z2 ka kP har (side U z1.1 z3) (side W z2.1 z4)
    · have e1 := sg_ngD (B := B) (C := C) ka hA0 (by omega)
      have e2 := sg_ngD (B := B) (C := C) kP hA0 (by omega)
      rw [go_c e1 (by have := cm_ne hA0; omega), e2]
theorem far_all (hA : okA s) (h : SM s 0 P) (hR : hasR s A B C) : faS A B C = sgP P A B C := by
  have kP := SM_k h
  have side : ∀ R, pk R → has s R → ordP P R = -1 := fun R kR hh => by
    obtain ⟨j, j0, j1, e1, e2, e3, e4⟩ := SM_r hA h kR hh
    exact (e4 j0).1
  by_cases hA0 : A = 0
  · subst hA0
    by_cases hB0 : B = 0
    · subst hB0
      rw [sg_con kP]
      unfold faS
      rw [if_neg (by omega), if_neg (by omega)]
    · obtain ⟨R, z1, z2⟩ := hR.1 rfl hB0
      exact far_l hB0 z1 kP (side R z1.1 z2)
  · by_cases hD : 0 ≤ B * B - 4 * A * C
    · obtain ⟨U, W, z1, z2, z3, z4⟩ := hR.2 hA0 hD
      exact far_q hA0 hD z1 z2 kP (side U z1.1 z3) (side W z2.1 z4)
    · rw [sg_ngD (B := B) (C := C) kP hA0 (by omega)]
      unfold faS
      rw [if_pos hA0]
/-- nearest points keep the sign, or have none -/
theorem adj_all {l : Int} (hA : okA s) (hS : Srt s) (h : SM s i P) (hi : 0 ≤ i ∧ i ≤ s.1) (hl : l = i - 1 ∨ l = i) (hl2 : 0 ≤ l ∧ l < s.1) (hR : hasR s A B C) (hne : sgP (s.2 l) A B C ≠ 0) : sgP (s.2 l) A B C = sgP P A B C := by
  have ka := pk_ok (hA.2 l hl2.1 hl2.2).1
  have kP := SM_k h
  have side : ∀ R, pk R → has s R → ordP (s.2 l) R = 0 ∨ ordP (s.2 l) R = ordP P R := fun R kR hh => by
    obtain ⟨j, j0, j1, e1, e2, e3, e4⟩ := SM_r hA h kR hh
    have z := ord_tr ka (pk_ok (hA.2 j j0 j1).1) kR (ord_ix hA hS hl2 ⟨j0, j1⟩) e1 (Or.inl rfl)
    by_cases q : i ≤ j
    · rw [(e4 q).1, z]
      unfold cmpI
      (repeat' split) <;> omega
    · rw [(e3 (by omega)).2, z]
      unfold cmpI
      (repeat' split) <;> omega
  by_cases hA0 : A = 0
  · subst hA0
    by_cases hB0 : B = 0
    · subst hB0; rw [sg_con ka, sg_con kP]
    · obtain ⟨R, z1, z2⟩ := hR.1 rfl hB0
      rw [sg_lin ka z1] at hne ⊢
      rw [sg_lin kP z1]
      rcases side R z1.1 z2 with e | e
      · rw [e, Int.mul_zero] at hne; exact absurd rfl hne
      · rw [e]
  · by_cases hD : 0 ≤ B * B - 4 * A * C
    · obtain ⟨U, W, z1, z2, z3, z4⟩ := hR.2 hA0 hD
      have pa := pm_eq (cm_ne hA0) (sg_prd ka hA0 hD z1 z2)
      have pr := pm_eq (cm_ne hA0) (sg_prd kP hA0 hD z1 z2)
      rw [pa] at hne ⊢
      rw [pr]
      rcases side U z1.1 z3 with e | e
      · rw [e, Int.zero_mul, Int.mul_zero] at hne; exact absurd rfl hne
      · rcases side W z2.1 z4 with f | f
        · rw [f, Int.mul_zero, Int.mul_zero] at hne; exact absurd rfl hne
        · rw [e, f]
    · rw [sg_ngD (B := B) (C := C) ka hA0 (by omega), sg_ngD (B := B) (C := C) kP hA0 (by omega)]
/-- between points only the same function is the same -/
theorem zero_all (hA : okA s) (h : SM s i P) (hR : hasR s A B C) (h0 : sgP P A B C = 0) : A = 0 ∧ B = 0 ∧ C = 0 := by
  have kP := SM_k h
  have side : ∀ R, pk R → has s R → ordP P R ≠ 0 := fun R kR hh => by
    obtain ⟨j, j0, j1, e1, e2, e3, e4⟩ := SM_r hA h kR hh
    by_cases q : i ≤ j
    · rw [(e4 q).1]; decide
    · rw [(e3 (by omega)).2]; decide
  by_cases hA0 : A = 0
  · subst hA0
    by_cases hB0 : B = 0
    · subst hB0
      rw [sg_con kP] at h0
      refine ⟨rfl, rfl, ?_⟩
      unfold cmpI at h0
      (repeat' split at h0) <;> omega
    · obtain ⟨R, z1, z2⟩ := hR.1 rfl hB0
      rw [sg_lin kP z1] at h0
      exact absurd h0 (pm_ne (cm_ne hB0) (side R z1.1 z2))
  · by_cases hD : 0 ≤ B * B - 4 * A * C
    · obtain ⟨U, W, z1, z2, z3, z4⟩ := hR.2 hA0 hD
      have pr := pm_eq (cm_ne hA0) (sg_prd kP hA0 hD z1 z2)
      rw [pr] at h0
      have u3 := ord_3 P U
      have w3 := ord_3 P W
      have su := side U z1.1 z3
      have sw := side W z2.1 z4
      refine absurd h0 (pm_ne (cm_ne hA0) ?_)
      rcases u3 with e | e | e <;> rcases w3 with f | f | f <;> rw [e, f] <;> first | decide | omega
    · rw [sg_ngD (B := B) (C := C) kP hA0 (by omega)] at h0
      have := cm_ne hA0
      omega
end zLNK
/-- a row, the reference's curves (but for out) and what it has laid of them -/
def LK (mr : zMem) (o : Int) (mm : zMem) (out : Int) (κ : Int → Int) : Prop := moK mm ∧ ML mm out (ptR mr o) ∧ lpA mm out = ptR mr o ∧ (∀ l, 0 ≤ l → l < mr o 1 → rq mr o l mm (κ l) ∧ (0 ≤ κ l ∧ κ l < mm 80 2) ∧ κ l ≠ out) ∧ ∀ l k, 0 ≤ l → l < k → k < mr o 1 → κ l < κ k
section zLK
variable {mr mm : zMem} {o out st c d e : Int} {κ : Int → Int}
theorem LK_pk (h : LK mr o mm out κ) (hs : 0 ≤ st ∧ st < 2 * (ptR mr o).1 + 1) : pk (mP mm (20 + st)) := by
  obtain ⟨_, ⟨hA, hS, hL, _⟩, _⟩ := h
  obtain ⟨c1, c2⟩ := hL.2.2 st hs.1 hs.2
  by_cases e : st % 2 = 1
  · rw [c1 e]; exact pk_ok (hA.2 _ (by omega) (by omega)).1
  · exact SM_k (c2 (by omega))
theorem df_sy (h : LK mr o mm out κ) (hs : 0 ≤ st ∧ st < 2 * (ptR mr o).1 + 1) (a b : Int) : dfM mm b a (20 + st) = -dfM mm a b (20 + st) := by
  unfold dfM
  rw [← sgP_n (LK_pk h hs)]
  congr 1 <;> omega
theorem df_tr {a b c x y : Int} (h : LK mr o mm out κ) (hs : 0 ≤ st ∧ st < 2 * (ptR mr o).1 + 1) (h1 : dfM mm a b (20 + st) = x) (h2 : dfM mm b c (20 + st) = y) (hh : y = 0 ∨ x = y) : dfM mm a c (20 + st) = x := by
  unfold dfM at *
  have z := sgP_a (LK_pk h hs) h1 h2 hh
  rw [← z]
  congr 1 <;> omega
theorem LK_hR (h : LK mr o mm out κ) (hc : 0 ≤ c ∧ c < mr o 1) (hd : 0 ≤ d ∧ d < mr o 1) (fc : mr (o + 2 + c) 0 ≠ 3) (fd : mr (o + 2 + d) 0 ≠ 3) : hasR (ptR mr o) (sqK (mm 82 (κ c)) - sqK (mm 82 (κ d))) (slK (mm 82 (κ c)) (mm 83 (κ c)) - slK (mm 82 (κ d)) (mm 83 (κ d))) (mm 84 (κ c) - mm 84 (κ d)) := by
  obtain ⟨hK, _, hp, hk, hm⟩ := h
  have H := (lpA_h (out := out) hK).2.2.1
  rw [hp] at H
  obtain ⟨qc, kc, oc⟩ := hk c hc.1 hc.2
  obtain ⟨qd, kd, od⟩ := hk d hd.1 hd.2
  have fc' : mm 82 (κ c) ≠ 3 := by rw [qc.1]; exact fc
  have fd' : mm 82 (κ d) ≠ 3 := by rw [qd.1]; exact fd
  by_cases e1 : d < c
  · have z := hasR_n (H (κ c) (κ d) kd.1 (hm d c hd.1 e1 hc.2) (by omega) oc od fc' fd')
    rw [show -(sqK (mm 82 (κ d)) - sqK (mm 82 (κ c))) = sqK (mm 82 (κ c)) - sqK (mm 82 (κ d)) by omega, show -(slK (mm 82 (κ d)) (mm 83 (κ d)) - slK (mm 82 (κ c)) (mm 83 (κ c))) = slK (mm 82 (κ c)) (mm 83 (κ c)) - slK (mm 82 (κ d)) (mm 83 (κ d)) by omega, show -(mm 84 (κ d) - mm 84 (κ c)) = mm 84 (κ c) - mm 84 (κ d) by omega] at z
    exact z
  · by_cases e2 : c < d
    · exact H (κ d) (κ c) kc.1 (hm c d hc.1 e2 hd.2) (by omega) od oc fd' fc'
    · have e3 : c = d := by omega
      rw [e3]
      refine ⟨fun q1 q2 => absurd (by omega) q2, fun q1 => absurd (by omega) q1⟩
theorem FS_df (h : LK mr o mm out κ) (hs : 0 ≤ st ∧ st < 2 * (ptR mr o).1 + 1) (hc : 0 ≤ c ∧ c < mr o 1) (hd : 0 ≤ d ∧ d < mr o 1) (fc : mr (o + 2 + c) 0 ≠ 3) (fd : mr (o + 2 + d) 0 ≠ 3) : FS (rowM mr o) 0 (ptR mr o).2 st c d = dfM mm (κ c) (κ d) (20 + st) := by
  have hR := LK_hR h hc hd fc fd
  obtain ⟨hK, ⟨hA, hS, hL, _⟩, hp, hk, hm⟩ := h
  obtain ⟨⟨c1, c2, c3⟩, _, _⟩ := hk c hc.1 hc.2
  obtain ⟨⟨d1, d2, d3⟩, _, _⟩ := hk d hd.1 hd.2
  obtain ⟨s1, s2⟩ := hL.2.2 st hs.1 hs.2
  have r5 : rowM mr o (0 + 5) c - rowM mr o (0 + 5) d = sqK (mm 82 (κ c)) - sqK (mm 82 (κ d)) := by rw [rowM_5, rowM_5, c1, d1]
  have r6 : rowM mr o (0 + 6) c - rowM mr o (0 + 6) d = slK (mm 82 (κ c)) (mm 83 (κ c)) - slK (mm 82 (κ d)) (mm 83 (κ d)) := by rw [rowM_6, rowM_6, c1, d1, c2, d2]
  have r7 : rowM mr o (0 + 7) c - rowM mr o (0 + 7) d = mm 84 (κ c) - mm 84 (κ d) := by rw [rowM_7, rowM_7, c3, d3]
  unfold dfM
  generalize sqK (mm 82 (κ c)) - sqK (mm 82 (κ d)) = A at *
  generalize slK (mm 82 (κ c)) (mm 83 (κ c)) - slK (mm 82 (κ d)) (mm 83 (κ d)) = B at *
  generalize mm 84 (κ c) - mm 84 (κ d) = C at *
  unfold FS
  by_cases e0 : st = 0
  · rw [if_pos e0]
    have sm := s2 (by omega)
    rw [show st / 2 = 0 by omega] at sm
    rw [← far_all hA sm hR]
    unfold farL faS
    generalize rowM mr o (0 + 5) c = x1 at *
    generalize rowM mr o (0 + 5) d = x2 at *
    generalize rowM mr o (0 + 6) c = y1 at *
    generalize rowM mr o (0 + 6) d = y2 at *
    generalize rowM mr o (0 + 7) c = z1 at *
    generalize rowM mr o (0 + 7) d = z2 at *
    unfold cmpI
    (repeat' split) <;> omega
  · rw [if_neg e0]
    by_cases e1 : st % 2 = 1
    · rw [if_pos e1]
      unfold stM
      rw [r5, r6, r7, s1 e1]
    · rw [if_neg e1]
      have sm := s2 (by omega)
      rw [← str_all hA hS sm (by omega) hR]
      unfold goM stM goS
      rw [r5, r6, r7]
theorem w_df (h : LK mr o mm out κ) (hs : 0 ≤ st ∧ st < 2 * (ptR mr o).1 + 1) (hc : 0 ≤ c ∧ c < mr o 1) (hd : 0 ≤ d ∧ d < mr o 1) (fc : mr (o + 2 + c) 0 ≠ 3) (fd : mr (o + 2 + d) 0 ≠ 3) : wR mr o st c d = dfM mm (κ c) (κ d) (20 + st) := by
  unfold wR wF
  by_cases e1 : d < c
  · rw [if_pos e1]; exact FS_df h hs hc hd fc fd
  · rw [if_neg e1]
    by_cases e2 : c < d
    · rw [if_pos e2, FS_df h hs hd hc fd fc, df_sy h hs]; omega
    · rw [if_neg e2, show d = c by omega]
      have := df_sy h hs (κ c) (κ c)
      omega
end zLK
