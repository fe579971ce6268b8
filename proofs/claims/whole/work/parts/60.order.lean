/-! the exact signs are right; points are ordered -/
theorem cmpI_d (a b : Int) : cmpI a b = cmpI (a - b) 0 := by
  unfold cmpI
  (repeat' split) <;> omega
theorem cmpI_n (a : Int) : cmpI (-a) 0 = -cmpI a 0 := by
  unfold cmpI
  (repeat' split) <;> omega
theorem sBd_0 : sBd (fun _ => 0) := ⟨1, by decide, fun N _ => ⟨by show -1 ≤ (0 : Int); decide, by show (0 : Int) ≤ 1; decide⟩⟩
theorem sPos_w {f : Int → Int} (h : ∀ N, 0 < N → N ≤ f N) : sPos f := ⟨1, by decide, fun N hN => by rw [Int.one_mul]; exact h N (by omega)⟩
theorem sLin (u : Int) : sSg (cmpI u 0) (fun N => u * N) := by
  unfold cmpI
  by_cases h : u < 0
  · rw [if_pos h]
    refine Or.inr (Or.inr ⟨rfl, sPos_w (fun N hN => ?_)⟩)
    have := mmul (show 1 ≤ -u by omega) (show 0 ≤ N by omega)
    have e : N * -u = -(u * N) := by grind
    show N ≤ -(u * N)
    omega
  · rw [if_neg h]
    by_cases h2 : u = 0
    · rw [if_pos h2, h2]
      refine Or.inr (Or.inl ⟨rfl, ?_⟩)
      obtain ⟨K, k0, hK⟩ := sBd_0
      exact ⟨K, k0, fun N hN => by show -K ≤ 0 * N ∧ 0 * N ≤ K; rw [Int.zero_mul]; exact hK N hN⟩
    · rw [if_neg h2]
      refine Or.inl ⟨rfl, sPos_w (fun N hN => ?_)⟩
      have := mmul (show 1 ≤ u by omega) (show 0 ≤ N by omega)
      have e : N * u = u * N := Int.mul_comm _ _
      show N ≤ u * N
      omega
theorem rsq_0 (N : Int) : rsq 0 N = 0 := by
  unfold rsq
  rw [Int.zero_mul, Int.zero_mul]
  rfl
theorem sRt {d : Int} (hd : 0 ≤ d) (v : Int) : sSg (if d = 0 then 0 else cmpI v 0) (fun N => v * rsq d N) := by
  by_cases h0 : d = 0
  · rw [if_pos h0, h0]
    refine Or.inr (Or.inl ⟨rfl, ?_⟩)
    obtain ⟨K, k0, hK⟩ := sBd_0
    exact ⟨K, k0, fun N hN => by show -K ≤ v * rsq 0 N ∧ v * rsq 0 N ≤ K; rw [rsq_0, Int.mul_zero]; exact hK N hN⟩
  · rw [if_neg h0]
    unfold cmpI
    by_cases h : v < 0
    · rw [if_pos h]
      refine Or.inr (Or.inr ⟨rfl, sPos_w (fun N hN => ?_)⟩)
      have a := rsq_lo (show 1 ≤ d by omega) hN
      have := mmul (show 1 ≤ -v by omega) (show 0 ≤ rsq d N by omega)
      have e : rsq d N * -v = -(v * rsq d N) := by grind
      show N ≤ -(v * rsq d N)
      omega
    · rw [if_neg h]
      by_cases h2 : v = 0
      · rw [if_pos h2, h2]
        refine Or.inr (Or.inl ⟨rfl, ?_⟩)
        obtain ⟨K, k0, hK⟩ := sBd_0
        exact ⟨K, k0, fun N hN => by show -K ≤ 0 * rsq d N ∧ 0 * rsq d N ≤ K; rw [Int.zero_mul]; exact hK N hN⟩
      · rw [if_neg h2]
        refine Or.inl ⟨rfl, sPos_w (fun N hN => ?_)⟩
        have a := rsq_lo (show 1 ≤ d by omega) hN
        have := mmul (show 1 ≤ v by omega) (show 0 ≤ rsq d N by omega)
        have e : rsq d N * v = v * rsq d N := Int.mul_comm _ _
        show N ≤ v * rsq d N
        omega
theorem sg3_ok {d : Int} (hd : 0 ≤ d) (u v : Int) : sSg (sg3 u v d) (fun N => u * N + v * rsq d N) := by
  refine sCmb_ok (D := fun N => (u * u - v * v * d) * N) (sLin u) (sRt hd v) (sLe_smul u sLe_id) (sLe_smul v (sLe_r hd)) (sLe_eq (fun N _ => ?_) (sLe_smul (v * v) (sLe_er hd))) (by rw [cmpI_d]; exact sLin _)
  show v * v * (d * N * N - rsq d N * rsq d N) = u * N * (u * N) - v * rsq d N * (v * rsq d N) - N * ((u * u - v * v * d) * N)
  generalize rsq d N = r
  grind
theorem sg5_ok {d e : Int} (hd : 0 ≤ d) (he : 0 ≤ e) (u v w : Int) : sSg (sg5 u v d w e) (fun N => u * N + v * rsq d N + w * rsq e N) := by
  have key := sCmb_ok (D := fun N => (u * u + v * v * d - w * w * e) * N + 2 * u * v * rsq d N) (sg3_ok hd u v) (sg3_ok he 0 w) (sLe_add (sLe_smul u sLe_id) (sLe_smul v (sLe_r hd))) (sLe_add (sLe_smul 0 sLe_id) (sLe_smul w (sLe_r he))) (sLe_eq (fun N _ => ?_) (sLe_add (sLe_smul (-(v * v)) (sLe_er hd)) (sLe_smul (w * w) (sLe_er he)))) (sg3_ok hd (u * u + v * v * d - w * w * e) (2 * u * v))
  · exact sSg_eq (fun N _ => by show u * N + v * rsq d N + (0 * N + w * rsq e N) = u * N + v * rsq d N + w * rsq e N; omega) key
  · show -(v * v) * (d * N * N - rsq d N * rsq d N) + w * w * (e * N * N - rsq e N * rsq e N) = (u * N + v * rsq d N) * (u * N + v * rsq d N) - (0 * N + w * rsq e N) * (0 * N + w * rsq e N) - N * ((u * u + v * v * d - w * w * e) * N + 2 * u * v * rsq d N)
    generalize rsq d N = r
    generalize rsq e N = r2
    grind
theorem sLe_rr {d e : Int} (hd : 0 ≤ d) (he : 0 ≤ e) : sLe (fun N => rsq d N * rsq e N - N * rsq (d * e) N) := by
  refine ⟨d + e + 1, by omega, fun N hN => ?_⟩
  have hN0 : 0 < N := by omega
  obtain ⟨a1, a2, a3⟩ := rsq_sp hd (show 0 ≤ N by omega)
  obtain ⟨b1, b2, b3⟩ := rsq_sp he (show 0 ≤ N by omega)
  obtain ⟨c1, c2, c3⟩ := rsq_sp (Int.mul_nonneg hd he) (show 0 ≤ N by omega)
  have a4 := rsq_up hd hN0
  have b4 := rsq_up he hN0
  have hdn : 0 ≤ d * N * N := Int.mul_nonneg (Int.mul_nonneg hd (by omega)) (by omega)
  have hen : 0 ≤ e * N * N := Int.mul_nonneg (Int.mul_nonneg he (by omega)) (by omega)
  have hnn : 0 < N * N := Int.mul_pos hN0 hN0
  show -((d + e + 1) * N) ≤ rsq d N * rsq e N - N * rsq (d * e) N ∧ rsq d N * rsq e N - N * rsq (d * e) N ≤ (d + e + 1) * N
  generalize rsq d N = r at *
  generalize rsq e N = p at *
  generalize rsq (d * e) N = t at *
  have p1 := Int.mul_le_mul a2 b2 (sqn p) hdn
  have e1 : r * r * (p * p) = r * p * (r * p) := by grind
  have e2 : d * N * N * (e * N * N) = N * N * (d * e * N * N) := by grind
  have p2 := Int.mul_lt_mul_of_pos_left c3 hnn
  have e3 : N * N * ((t + 1) * (t + 1)) = N * (t + 1) * (N * (t + 1)) := by grind
  have p3 := sq_lt (a := r * p) (b := N * (t + 1)) (Int.mul_nonneg (by omega) (by omega)) (by omega)
  have p4 := mmul c2 (show 0 ≤ N * N by omega)
  have e4 : N * N * (t * t) = N * t * (N * t) := by grind
  have hx : 0 < (r + 1) * (r + 1) := Int.mul_pos (by omega) (by omega)
  have p5 := Int.mul_le_mul (Int.le_of_lt a3) (Int.le_refl (e * N * N)) hen (by omega)
  have p6 := Int.mul_lt_mul_of_pos_left b3 hx
  have e5 : (r + 1) * (r + 1) * ((p + 1) * (p + 1)) = (r + 1) * (p + 1) * ((r + 1) * (p + 1)) := by grind
  have p7 := sq_lt (a := N * t) (b := (r + 1) * (p + 1)) (Int.mul_nonneg (by omega) (by omega)) (by omega)
  have e6 : (r + 1) * (p + 1) = r * p + r + p + 1 := by grind
  have e7 : N * (t + 1) = N * t + N := by grind
  have e8 : (d + e + 1) * N = d * N + e * N + N := by grind
  have hd1 := Int.mul_nonneg hd (show 0 ≤ N by omega)
  have he1 := Int.mul_nonneg he (show 0 ≤ N by omega)
  omega
/-- the reference's sign of a number and two roots -/
def sRs (n a d b e : Int) : Int := if d = e then sg3 n (a + b) d else sCmb (cmpI n 0) (sCmb (if d = 0 then 0 else cmpI a 0) (if e = 0 then 0 else cmpI b 0) (cmpI (a * a * d) (b * b * e))) (sg3 (n * n - a * a * d - b * b * e) (-2 * a * b) (d * e))
theorem sRs_ok {d e : Int} (hd : 0 ≤ d) (he : 0 ≤ e) (n a b : Int) : sSg (sRs n a d b e) (fun N => n * N + a * rsq d N + b * rsq e N) := by
  unfold sRs
  by_cases h : d = e
  · subst h
    rw [if_pos rfl]
    exact sSg_eq (fun N _ => by show n * N + (a + b) * rsq d N = n * N + a * rsq d N + b * rsq d N; rw [Int.add_mul]; omega) (sg3_ok hd n (a + b))
  · rw [if_neg h]
    have inner := sCmb_ok (s := cmpI (a * a * d) (b * b * e)) (D := fun N => (a * a * d - b * b * e) * N) (sRt hd a) (sRt he b) (sLe_smul a (sLe_r hd)) (sLe_smul b (sLe_r he)) (sLe_eq (fun N _ => ?_) (sLe_add (sLe_smul (-(a * a)) (sLe_er hd)) (sLe_smul (b * b) (sLe_er he)))) (by rw [cmpI_d (a * a * d)]; exact sLin _)
    · have outer := sCmb_ok (D := fun N => (n * n - a * a * d - b * b * e) * N + -2 * a * b * rsq (d * e) N) (sLin n) inner (sLe_smul n sLe_id) (sLe_add (sLe_smul a (sLe_r hd)) (sLe_smul b (sLe_r he))) (sLe_eq (fun N _ => ?_) (sLe_add (sLe_add (sLe_smul (a * a) (sLe_er hd)) (sLe_smul (b * b) (sLe_er he))) (sLe_smul (-2 * a * b) (sLe_rr hd he)))) (sg3_ok (Int.mul_nonneg hd he) _ _)
      · exact sSg_eq (fun N _ => by show n * N + (a * rsq d N + b * rsq e N) = n * N + a * rsq d N + b * rsq e N; omega) outer
      · show a * a * (d * N * N - rsq d N * rsq d N) + b * b * (e * N * N - rsq e N * rsq e N) + -2 * a * b * (rsq d N * rsq e N - N * rsq (d * e) N) = n * N * (n * N) - (a * rsq d N + b * rsq e N) * (a * rsq d N + b * rsq e N) - N * ((n * n - a * a * d - b * b * e) * N + -2 * a * b * rsq (d * e) N)
        generalize rsq d N = r
        generalize rsq e N = r2
        generalize rsq (d * e) N = r3
        grind
    · show -(a * a) * (d * N * N - rsq d N * rsq d N) + b * b * (e * N * N - rsq e N * rsq e N) = a * rsq d N * (a * rsq d N) - b * rsq e N * (b * rsq e N) - N * ((a * a * d - b * b * e) * N)
      generalize rsq d N = r
      generalize rsq e N = r2
      grind
/-- points that can be compared -/
def pk (p : Pt) : Prop := 0 ≤ p.2.2.1 ∧ 0 < p.2.2.2
theorem pk_ok {p : Pt} (h : okP p) : pk p := ⟨h.2.2.1.1, by have := h.2.2.2.1; omega⟩
def xq (p : Pt) (N : Int) : Int := p.1 * N + p.2.1 * rsq p.2.2.1 N
theorem xq_le {p : Pt} (h : pk p) : sLe (xq p) := sLe_add (sLe_smul p.1 sLe_id) (sLe_smul p.2.1 (sLe_r h.1))
theorem ord_ok {a b : Pt} (ha : pk a) (hb : pk b) : sSg (ordP a b) (fun N => b.2.2.2 * xq a N - a.2.2.2 * xq b N) := by
  refine sSg_eq (fun N _ => ?_) (sg5_ok ha.1 hb.1 (a.1 * b.2.2.2 - b.1 * a.2.2.2) (a.2.1 * b.2.2.2) (-b.2.1 * a.2.2.2))
  show (a.1 * b.2.2.2 - b.1 * a.2.2.2) * N + a.2.1 * b.2.2.2 * rsq a.2.2.1 N + -b.2.1 * a.2.2.2 * rsq b.2.2.1 N = b.2.2.2 * (a.1 * N + a.2.1 * rsq a.2.2.1 N) - a.2.2.2 * (b.1 * N + b.2.1 * rsq b.2.2.1 N)
  generalize rsq a.2.2.1 N = r
  generalize rsq b.2.2.1 N = r2
  grind
def ordM (a b : Pt) : Int := sRs (b.2.2.2 * a.1 - a.2.2.2 * b.1) (b.2.2.2 * a.2.1) a.2.2.1 (0 - a.2.2.2 * b.2.1) b.2.2.1
theorem ordM_eq {a b : Pt} (ha : pk a) (hb : pk b) : ordM a b = ordP a b := by
  refine sSg_uq (sSg_eq (fun N _ => ?_) (sRs_ok ha.1 hb.1 (b.2.2.2 * a.1 - a.2.2.2 * b.1) (b.2.2.2 * a.2.1) (0 - a.2.2.2 * b.2.1))) (ord_ok ha hb)
  show (b.2.2.2 * a.1 - a.2.2.2 * b.1) * N + b.2.2.2 * a.2.1 * rsq a.2.2.1 N + (0 - a.2.2.2 * b.2.1) * rsq b.2.2.1 N = b.2.2.2 * (a.1 * N + a.2.1 * rsq a.2.2.1 N) - a.2.2.2 * (b.1 * N + b.2.1 * rsq b.2.2.1 N)
  generalize rsq a.2.2.1 N = r
  generalize rsq b.2.2.1 N = r2
  grind
theorem ord_3 (a b : Pt) : ordP a b = -1 ∨ ordP a b = 0 ∨ ordP a b = 1 := sg5_3 _ _ _ _ _
theorem ord_tr {a b c : Pt} {s t : Int} (ha : pk a) (hb : pk b) (hc : pk c) (h1 : ordP a b = s) (h2 : ordP b c = t) (h : t = 0 ∨ s = t) : ordP a c = s := by
  have o1 := sSg_mul hc.2 (ord_ok ha hb)
  have o2 := sSg_mul ha.2 (ord_ok hb hc)
  rw [h1] at o1
  rw [h2] at o2
  refine sSg_uq (ord_ok ha hc) (sSg_div hb.2 (sSg_eq (fun N _ => ?_) (sSg_add2 o1 o2 h)))
  show c.2.2.2 * (b.2.2.2 * xq a N - a.2.2.2 * xq b N) + a.2.2.2 * (c.2.2.2 * xq b N - b.2.2.2 * xq c N) = b.2.2.2 * (c.2.2.2 * xq a N - a.2.2.2 * xq c N)
  grind
theorem ord_sy {a b : Pt} (ha : pk a) (hb : pk b) : ordP b a = -ordP a b := by
  refine sSg_uq (ord_ok hb ha) (sSg_eq (fun N _ => ?_) (sSg_neg (ord_ok ha hb)))
  show -(b.2.2.2 * xq a N - a.2.2.2 * xq b N) = a.2.2.2 * xq b N - b.2.2.2 * xq a N
  omega
theorem ord_tr2 {a b c : Pt} {s t : Int} (ha : pk a) (hb : pk b) (hc : pk c) (h1 : ordP a b = s) (h2 : ordP b c = t) (h : s = 0 ∨ s = t) : ordP a c = t := by
  have h3 := ord_tr hc hb ha (ord_sy hb hc) (ord_sy ha hb) (by rw [h1, h2]; omega)
  have h4 := ord_sy hc ha
  omega
/-- a fraction as a point -/
def fr (p q : Int) : Pt := (p, 0, 0, q)
def cmF (P : Pt) (p q : Int) : Int := sg3 (q * P.1 - p * P.2.2.2) (q * P.2.1) P.2.2.1
theorem xq_fr (p q N : Int) : xq (fr p q) N = p * N := by
  unfold xq fr
  show p * N + 0 * rsq 0 N = p * N
  rw [Int.zero_mul, Int.add_zero]
theorem pk_fr {p q : Int} (h : 0 < q) : pk (fr p q) := ⟨Int.le_refl 0, h⟩
theorem cmF_eq {P : Pt} {p q : Int} (hP : pk P) (hq : 0 < q) : cmF P p q = ordP P (fr p q) := by
  refine sSg_uq (sSg_eq (fun N _ => ?_) (sg3_ok hP.1 (q * P.1 - p * P.2.2.2) (q * P.2.1))) (ord_ok hP (pk_fr hq))
  show (q * P.1 - p * P.2.2.2) * N + q * P.2.1 * rsq P.2.2.1 N = q * xq P N - P.2.2.2 * xq (fr p q) N
  rw [xq_fr]
  unfold xq
  generalize rsq P.2.2.1 N = r
  grind
