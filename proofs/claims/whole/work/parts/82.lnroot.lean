/-! all roots are among the points -/
def has (s : PtS) (R : Pt) : Prop := ∃ j, 0 ≤ j ∧ j < s.1 ∧ ordP (s.2 j) R = 0
theorem ord_rf {x : Pt} (h : pk x) : ordP x x = 0 := by
  have := ord_sy h h
  omega
theorem has_ent {s : PtS} {x R : Pt} (h : has s R) : has (entP s x) R := by
  obtain ⟨j, j0, j1, hj⟩ := h
  unfold entP
  rcases Classical.em (12 ≤ s.1 ∨ (enQ s x < s.1 ∧ ordP (s.2 (enQ s x)) x = 0)) with c | c
  · rw [cif_t c]; exact ⟨j, j0, j1, hj⟩
  · rw [cif_f c]
    by_cases e : j < enQ s x
    · refine ⟨j, j0, by show j < s.1 + 1; omega, ?_⟩
      show ordP (if j < enQ s x then s.2 j else if j = enQ s x then x else s.2 (j - 1)) R = 0
      rw [if_pos e]; exact hj
    · refine ⟨j + 1, by omega, by show j + 1 < s.1 + 1; omega, ?_⟩
      show ordP (if j + 1 < enQ s x then s.2 (j + 1) else if j + 1 = enQ s x then x else s.2 (j + 1 - 1)) R = 0
      rw [if_neg (by omega), if_neg (by omega), show j + 1 - 1 = j by omega]; exact hj
theorem has_new {s : PtS} {x : Pt} (h0 : 0 ≤ s.1) (h12 : s.1 < 12) (hx : pk x) : has (entP s x) x := by
  have h1 := zff_r (p := fun p => 0 ≤ ordP (s.2 p) x) (s.1 - 0).toNat 0
  have h2 : 0 ≤ enQ s x ∧ enQ s x ≤ s.1 := by unfold enQ; omega
  unfold entP
  rcases Classical.em (12 ≤ s.1 ∨ (enQ s x < s.1 ∧ ordP (s.2 (enQ s x)) x = 0)) with c | c
  · rw [cif_t c]
    rcases c with c | c
    · omega
    · exact ⟨enQ s x, h2.1, c.1, c.2⟩
  · rw [cif_f c]
    refine ⟨enQ s x, h2.1, by show enQ s x < s.1 + 1; omega, ?_⟩
    show ordP (if enQ s x < enQ s x then s.2 (enQ s x) else if enQ s x = enQ s x then x else s.2 (enQ s x - 1)) x = 0
    rw [if_neg (by omega), if_pos rfl]
    exact ord_rf hx
theorem rsq_sq {r N : Int} (hr : 0 ≤ r) (hN : 0 < N) : rsq (r * r) N = r * N := by
  obtain ⟨a, b, c⟩ := rsq_sp (sqn r) (Int.le_of_lt hN)
  have h0 := Int.mul_nonneg hr (Int.le_of_lt hN)
  have e : r * r * N * N = r * N * (r * N) := by grind
  rw [e] at b c
  have x := sq_le (a := rsq (r * r) N) (b := r * N) h0 b
  have y := sq_lt (a := r * N) (b := rsq (r * r) N + 1) (by omega) c
  omega
theorem rtL_n {b c : Int} (h0 : b ≠ 0) : rtL b c (nrm (0 - c) 0 0 b) := by
  rw [nrm_0]
  refine ⟨⟨by show (0 : Int) ≤ 0; omega, (tn_q h0).1⟩, fun N _ => ?_⟩
  show b * (tn b * (0 - c) * N + 0 * rsq 0 N) = -(c * (tn b * b)) * N
  grind
theorem rtQ_n {a b D y : Int} (h0 : a ≠ 0) (hD : 0 ≤ D ∧ D < 4294967296) : rtQ a b D (tn (2 * a) * y) (nrm (0 - b) y D (2 * a)) := by
  have t := tn_q (q := 2 * a) (by omega)
  have r0 := (rtD_r D).1
  by_cases h : rtD D * rtD D = D
  · have e : nrm (0 - b) y D (2 * a) = (tn (2 * a) * (0 - b) + tn (2 * a) * y * rtD D, 0, 0, tn (2 * a) * (2 * a)) := by unfold nrm; rw [if_pos h]
    rw [e]
    refine ⟨⟨by show (0 : Int) ≤ 0; omega, t.1⟩, rfl, fun N hN => ?_⟩
    have e2 : rsq D N = rtD D * N := by
      have := rsq_sq r0 hN
      rw [h] at this
      exact this
    show (tn (2 * a) * (0 - b) + tn (2 * a) * y * rtD D) * N + 0 * rsq 0 N = -(tn (2 * a) * b) * N + tn (2 * a) * y * rsq D N
    rw [e2]
    grind
  · have e : nrm (0 - b) y D (2 * a) = (tn (2 * a) * (0 - b), tn (2 * a) * y, D, tn (2 * a) * (2 * a)) := by unfold nrm; rw [if_neg h]
    rw [e]
    refine ⟨⟨hD.1, t.1⟩, rfl, fun N hN => ?_⟩
    show tn (2 * a) * (0 - b) * N + tn (2 * a) * y * rsq D N = -(tn (2 * a) * b) * N + tn (2 * a) * y * rsq D N
    grind
/-- the roots of a x x and b x and c are points of s -/
def hasR (s : PtS) (a b c : Int) : Prop := (a = 0 → b ≠ 0 → ∃ R, rtL b c R ∧ has s R) ∧ (a ≠ 0 → 0 ≤ b * b - 4 * a * c → ∃ U W, rtQ a b (b * b - 4 * a * c) 1 U ∧ rtQ a b (b * b - 4 * a * c) (-1) W ∧ has s U ∧ has s W)
theorem hasR_m {s t : PtS} {a b c : Int} (h : hasR s a b c) (hm : ∀ R, has s R → has t R) : hasR t a b c := by
  refine ⟨fun q1 q2 => ?_, fun q1 q2 => ?_⟩
  · obtain ⟨R, z1, z2⟩ := h.1 q1 q2
    exact ⟨R, z1, hm R z2⟩
  · obtain ⟨U, W, z1, z2, z3, z4⟩ := h.2 q1 q2
    exact ⟨U, W, z1, z2, hm U z3, hm W z4⟩
theorem meM_m {s : PtS} {a b c : Int} (R : Pt) (h : has s R) : has (meM s a b c) R := by
  unfold meM
  (repeat' split)
  · exact h
  · exact has_ent h
  · exact h
  · exact has_ent (has_ent h)
theorem meM_h {s : PtS} {a b c : Int} (hA : okA s) (hS : Srt s) (h10 : s.1 ≤ 10) (ha : -2 ≤ a ∧ a ≤ 2) (hb : -18 ≤ b ∧ b ≤ 18) (hc : -18 ≤ c ∧ c ≤ 18) : hasR (meM s a b c) a b c := by
  obtain ⟨d1, d2⟩ := dsc ha hb hc
  have hA0 := hA.1
  refine ⟨fun q1 q2 => ?_, fun q1 q2 => ?_⟩
  · unfold meM
    rw [if_pos q1, if_neg q2]
    exact ⟨_, rtL_n q2, has_new hA0 (by omega) (rtL_n q2).1⟩
  · unfold meM
    rw [if_neg q1, if_neg (by omega)]
    generalize b * b - 4 * a * c = D at *
    have z1 := rtQ_n (b := b) (y := 1) q1 (D := D) (by omega)
    have z2 := rtQ_n (b := b) (y := -1) q1 (D := D) (by omega)
    have n1 := ent_n s (nrm (0 - b) 1 D (2 * a))
    have h1 : has (entP (entP s (nrm (0 - b) 1 D (2 * a))) (nrm (0 - b) (-1) D (2 * a))) (nrm (0 - b) 1 D (2 * a)) := has_ent (has_new hA0 (by omega) z1.1)
    have h2 : has (entP (entP s (nrm (0 - b) 1 D (2 * a))) (nrm (0 - b) (-1) D (2 * a))) (nrm (0 - b) (-1) D (2 * a)) := has_new (by omega) (by omega) z2.1
    rcases tn_c (2 * a) with t | t
    · rw [t] at z1 z2
      exact ⟨_, _, z1, z2, h1, h2⟩
    · rw [t] at z1 z2
      exact ⟨_, _, z2, z1, h2, h1⟩
def HA (mm : zMem) (out k n : Int) (s : PtS) : Prop := ∀ i j, 0 ≤ j → j < i → (i < k ∨ i = k ∧ j < n) → i ≠ out → j ≠ out → mm 82 i ≠ 3 → mm 82 j ≠ 3 → hasR s (sqK (mm 82 j) - sqK (mm 82 i)) (slK (mm 82 j) (mm 83 j) - slK (mm 82 i) (mm 83 i)) (mm 84 j - mm 84 i)
def HF (mm : zMem) (out k : Int) (s : PtS) : Prop := ∀ i, 0 ≤ i → i < k → i ≠ out → mm 82 i = 3 → has s (fr (mm 84 i) 1)
theorem lpI_inv {mm : zMem} {out k n : Int} {s : PtS} (hK : moK mm) (hk : 0 ≤ k ∧ k < mm 80 2) (hn : 0 ≤ n ∧ n < k) (h : (okA s ∧ Srt s) ∧ lpC mm k n s ∧ HA mm out k n s ∧ HF mm out (k + 1) s) : (okA (lpI mm out k n s) ∧ Srt (lpI mm out k n s)) ∧ lpC mm k (n + 1) (lpI mm out k n s) ∧ HA mm out k (n + 1) (lpI mm out k n s) ∧ HF mm out (k + 1) (lpI mm out k n s) := by
  obtain ⟨⟨h1, h2⟩, h3, h4, h5⟩ := h
  have k1 := hK.1
  unfold lpI
  rcases Classical.em (k ≠ out ∧ n ≠ out ∧ mm 82 k ≠ 3 ∧ mm 82 n ≠ 3) with c | c
  · rw [cif_t c]
    have ka := hK.2 n hn.1 (by omega)
    have kb := hK.2 k hk.1 (by omega)
    have qa := sqK_r (mm 82 n)
    have qb := sqK_r (mm 82 k)
    have la := slK_r (k := mm 82 n) ka.2.1
    have lb := slK_r (k := mm 82 k) kb.2.1
    have mo := meM_ok (s := s) (a := sqK (mm 82 n) - sqK (mm 82 k)) (b := slK (mm 82 n) (mm 83 n) - slK (mm 82 k) (mm 83 k)) (c := mm 84 n - mm 84 k) h1 h2 (by omega) (by omega) (by omega)
    have cc := lpC_m h3 (by omega) hn c.2.2.1 c.2.2.2 mo.2.2.2
    have mh := meM_h (s := s) (a := sqK (mm 82 n) - sqK (mm 82 k)) (b := slK (mm 82 n) (mm 83 n) - slK (mm 82 k) (mm 83 k)) (c := mm 84 n - mm 84 k) h1 h2 cc.1 (by omega) (by omega) (by omega)
    refine ⟨⟨mo.1, mo.2.1⟩, cc.2, fun i j q1 q2 q3 q4 q5 q6 q7 => ?_, fun i q1 q2 q3 q4 => meM_m _ (h5 i q1 q2 q3 q4)⟩
    by_cases e : i = k ∧ j = n
    · rw [e.1, e.2]; exact mh
    · exact hasR_m (h4 i j q1 q2 (by omega) q4 q5 q6 q7) (fun R => meM_m R)
  · rw [cif_f c]
    refine ⟨⟨h1, h2⟩, lpC_s h3 (by omega) hn, fun i j q1 q2 q3 q4 q5 q6 q7 => ?_, h5⟩
    by_cases e : i = k ∧ j = n
    · exact absurd ⟨by omega, by omega, by rw [← e.1]; exact q6, by rw [← e.2]; exact q7⟩ c
    · exact h4 i j q1 q2 (by omega) q4 q5 q6 q7
theorem lpO_inv {mm : zMem} {out k : Int} {s : PtS} (hK : moK mm) (hk : 0 ≤ k ∧ k < mm 80 2) (h : (okA s ∧ Srt s) ∧ lpB mm k s ∧ HA mm out k 0 s ∧ HF mm out k s) : (okA (lpO mm out k s) ∧ Srt (lpO mm out k s)) ∧ lpB mm (k + 1) (lpO mm out k s) ∧ HA mm out (k + 1) 0 (lpO mm out k s) ∧ HF mm out (k + 1) (lpO mm out k s) := by
  obtain ⟨⟨h1, h2⟩, h3, h4, h5⟩ := h
  have k1 := hK.1
  have kb := hK.2 k hk.1 (by omega)
  have start : ∀ t, t = cif (k ≠ out ∧ mm 82 k = 3) (entP s (nrm (mm 84 k) 0 0 1)) s → (okA t ∧ Srt t) ∧ lpC mm k 0 t ∧ HA mm out k 0 t ∧ HF mm out (k + 1) t := by
    intro t ht
    rcases Classical.em (k ≠ out ∧ mm 82 k = 3) with c | c
    · rw [cif_t c] at ht
      rw [ht]
      have o := ent_ok h1 h2 (okQ_f (p := mm 84 k) (q := 1) (by omega) (by decide) (by decide))
      refine ⟨o, lpC_e h3 (by omega) c.2 (ent_n _ _), fun i j q1 q2 q3 q4 q5 q6 q7 => hasR_m (h4 i j q1 q2 q3 q4 q5 q6 q7) (fun R => has_ent), fun i q1 q2 q3 q4 => ?_⟩
      by_cases e : i = k
      · rw [e, nrm_p (by decide)]
        exact has_new h1.1 (by unfold lpB at h3; omega) (pk_fr (by decide))
      · exact has_ent (h5 i q1 (by omega) q3 q4)
    · rw [cif_f c] at ht
      rw [ht]
      refine ⟨⟨h1, h2⟩, lpC_a h3 (by omega), h4, fun i q1 q2 q3 q4 => ?_⟩
      by_cases e : i = k
      · rw [e] at q3 q4
        exact absurd ⟨q3, q4⟩ c
      · exact h5 i q1 (by omega) q3 q4
  have st := start _ rfl
  have z := zfo_inv (f := lpI mm out k) (fun n s => (okA s ∧ Srt s) ∧ lpC mm k n s ∧ HA mm out k n s ∧ HF mm out (k + 1) s) (k - 0).toNat 0 _ st (fun j t q1 q2 q3 => lpI_inv hK hk ⟨q1, by omega⟩ q3)
  rw [show 0 + ((k - 0).toNat : Int) = k by omega] at z
  unfold lpO
  refine ⟨z.1, lpC_b z.2.1 (by omega), fun i j q1 q2 q3 => z.2.2.1 i j q1 q2 (by omega), z.2.2.2⟩
theorem lpA_h {mm : zMem} {out : Int} (hK : moK mm) : (okA (lpA mm out) ∧ Srt (lpA mm out)) ∧ lpB mm (mm 80 2) (lpA mm out) ∧ HA mm out (mm 80 2) 0 (lpA mm out) ∧ HF mm out (mm 80 2) (lpA mm out) := by
  have k1 := hK.1
  have z := zfo_inv (f := lpO mm out) (fun k s => (okA s ∧ Srt s) ∧ lpB mm k s ∧ HA mm out k 0 s ∧ HF mm out k s) (mm 80 2 - 0).toNat 0 (0, fun _ => (0, 0, 0, 1)) ⟨⟨⟨by decide, fun k q1 q2 => by have q3 : k < 0 := q2; omega⟩, fun i j q1 q2 q3 => by have q4 : j < 0 := q3; omega⟩, Or.inl ⟨rfl, by decide⟩, fun i j q1 q2 q3 => by omega, fun i q1 q2 => by omega⟩ (fun j t q1 q2 q3 => lpO_inv hK ⟨q1, by omega⟩ q3)
  rw [show 0 + ((mm 80 2 - 0).toNat : Int) = mm 80 2 by omega] at z
  exact z
