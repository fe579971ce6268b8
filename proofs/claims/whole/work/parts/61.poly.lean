/-! signs of second powers at points and between them -/
def vq (p : Pt) (A B C N : Int) : Int := (A * (p.1 * p.1 + p.2.1 * p.2.1 * p.2.2.1) + (B * p.1 + C * p.2.2.2) * p.2.2.2) * N + p.2.1 * (2 * A * p.1 + B * p.2.2.2) * rsq p.2.2.1 N
theorem sgP_ok {p : Pt} (hp : pk p) (A B C : Int) : sSg (sgP p A B C) (vq p A B C) := sg3_ok hp.1 _ _
theorem vq_er {p : Pt} (hp : pk p) (A B C : Int) : sLe (fun N => A * xq p N * xq p N + B * p.2.2.2 * N * xq p N + C * p.2.2.2 * p.2.2.2 * N * N - N * vq p A B C N) := by
  refine sLe_eq (fun N _ => ?_) (sLe_smul (-(A * (p.2.1 * p.2.1))) (sLe_er hp.1))
  unfold xq vq
  show -(A * (p.2.1 * p.2.1)) * (p.2.2.1 * N * N - rsq p.2.2.1 N * rsq p.2.2.1 N) = _
  generalize rsq p.2.2.1 N = r
  grind
theorem vq_0 (p : Pt) (B C N : Int) : vq p 0 B C N = p.2.2.2 * (B * xq p N + C * p.2.2.2 * N) := by
  unfold xq vq
  generalize rsq p.2.2.1 N = r
  grind
theorem vq_add (p : Pt) (A B C A' B' C' N : Int) : vq p (A + A') (B + B') (C + C') N = vq p A B C N + vq p A' B' C' N := by
  unfold vq
  generalize rsq p.2.2.1 N = r
  grind
theorem sSg_cm {s : Int} {f : Int → Int} (c : Int) (h : sSg s f) : sSg (cmpI c 0 * s) (fun N => c * f N) := by
  rcases Int.lt_or_le c 0 with hc | hc
  · have e : cmpI c 0 = -1 := by unfold cmpI; rw [if_pos hc]
    rw [e]
    have := sSg_mul (c := -c) (by omega) (sSg_neg h)
    rw [show -1 * s = -s by omega]
    exact sSg_eq (fun N _ => by show -c * -f N = c * f N; rw [Int.neg_mul_neg]) this
  · rcases Int.lt_or_le 0 c with h2 | h2
    · have e : cmpI c 0 = 1 := by unfold cmpI; rw [if_neg (by omega), if_neg (by omega)]
      rw [e, Int.one_mul]
      exact sSg_mul h2 h
    · have e : c = 0 := by omega
      subst e
      rw [show cmpI 0 0 = 0 by decide, Int.zero_mul]
      refine Or.inr (Or.inl ⟨rfl, ?_⟩)
      obtain ⟨K, k0, hK⟩ := sBd_0
      exact ⟨K, k0, fun N hN => by show -K ≤ 0 * f N ∧ 0 * f N ≤ K; rw [Int.zero_mul]; exact hK N hN⟩
theorem cm_ne {A : Int} (h : A ≠ 0) : cmpI A 0 = -1 ∨ cmpI A 0 = 1 := by unfold cmpI; (repeat' split) <;> omega
theorem cm_tn {A : Int} (h : A ≠ 0) : tn (2 * A) = cmpI A 0 := by unfold cmpI tn; (repeat' split) <;> omega
theorem cm_pos {D : Int} (h : 0 < D) : cmpI D 0 = 1 := by unfold cmpI; rw [if_neg (by omega), if_neg (by omega)]
/-- R is where B times x, and C, is 0 -/
def rtL (B C : Int) (R : Pt) : Prop := pk R ∧ ∀ N, 0 < N → B * xq R N = -(C * R.2.2.2) * N
/-- R is the upper (1) or the lower (-1) root -/
def rtQ (A B D h : Int) (R : Pt) : Prop := pk R ∧ R.2.2.2 = tn (2 * A) * (2 * A) ∧ ∀ N, 0 < N → xq R N = -(tn (2 * A) * B) * N + h * rsq D N
theorem sg_lin {p R : Pt} {B C : Int} (hp : pk p) (hR : rtL B C R) : sgP p 0 B C = cmpI B 0 * ordP p R := by
  have o := sSg_cm B (ord_ok hp hR.1)
  refine sSg_uq (sgP_ok hp 0 B C) ?_
  refine sSg_eq (fun N _ => (vq_0 p B C N).symm) (sSg_mul hp.2 (sSg_div hR.1.2 (sSg_eq (fun N hN => ?_) o)))
  show B * (R.2.2.2 * xq p N - p.2.2.2 * xq R N) = R.2.2.2 * (B * xq p N + C * p.2.2.2 * N)
  have e := hR.2 N hN
  have e1 : B * (R.2.2.2 * xq p N - p.2.2.2 * xq R N) = R.2.2.2 * (B * xq p N) - p.2.2.2 * (B * xq R N) := by grind
  rw [e1, e]
  grind
theorem sg_con {p : Pt} (hp : pk p) (C : Int) : sgP p 0 0 C = cmpI C 0 := by
  refine sSg_uq (sgP_ok hp 0 0 C) (sSg_eq (fun N _ => ?_) (sSg_mul hp.2 (sSg_mul hp.2 (sLin C))))
  rw [vq_0]
  show p.2.2.2 * (p.2.2.2 * (C * N)) = _
  grind
theorem ord_rt {p R : Pt} {A B D h : Int} (hp : pk p) (hR : rtQ A B D h R) : sSg (ordP p R) (fun N => tn (2 * A) * (2 * A * xq p N + B * p.2.2.2 * N) - h * (p.2.2.2 * rsq D N)) := by
  refine sSg_eq (fun N hN => ?_) (ord_ok hp hR.1)
  show R.2.2.2 * xq p N - p.2.2.2 * xq R N = _
  rw [hR.2.1, hR.2.2 N hN]
  generalize xq p N = X
  generalize rsq D N = r
  grind
theorem tn_sq (A : Int) : tn (2 * A) * tn (2 * A) = 1 := by unfold tn; split <;> rfl
theorem y_le {p : Pt} (hp : pk p) (A B : Int) : sLe (fun N => tn (2 * A) * (2 * A * xq p N + B * p.2.2.2 * N)) := sLe_smul _ (sLe_add (sLe_smul _ (xq_le hp)) (sLe_smul _ sLe_id))
theorem z_le {p : Pt} {D : Int} (hD : 0 ≤ D) (h : Int) : sLe (fun N => -(h * (p.2.2.2 * rsq D N))) := sLe_neg (sLe_smul h (sLe_smul p.2.2.2 (sLe_r hD)))
theorem sg_prd {p U W : Pt} {A B C : Int} (hp : pk p) (hA : A ≠ 0) (hD : 0 ≤ B * B - 4 * A * C) (hU : rtQ A B (B * B - 4 * A * C) 1 U) (hW : rtQ A B (B * B - 4 * A * C) (-1) W) : cmpI A 0 * sgP p A B C = ordP p U * ordP p W := by
  have o4 : cmpI (4 * A) 0 = cmpI A 0 := by unfold cmpI; (repeat' split) <;> omega
  have o := sSg_cm (4 * A) (sgP_ok hp A B C)
  rw [o4] at o
  refine sSg_uq o (sPrd (ord_rt hp hU) (ord_rt hp hW) (sLe_add (y_le hp A B) (z_le hD 1)) (sLe_add (y_le hp A B) (z_le hD (-1))) ?_)
  refine sLe_eq (fun N _ => ?_) (sLe_add (sLe_smul (4 * A) (vq_er hp A B C)) (sLe_smul (p.2.2.2 * p.2.2.2) (sLe_er hD)))
  have t := tn_sq A
  show 4 * A * (A * xq p N * xq p N + B * p.2.2.2 * N * xq p N + C * p.2.2.2 * p.2.2.2 * N * N - N * vq p A B C N) + p.2.2.2 * p.2.2.2 * ((B * B - 4 * A * C) * N * N - rsq (B * B - 4 * A * C) N * rsq (B * B - 4 * A * C) N) = (tn (2 * A) * (2 * A * xq p N + B * p.2.2.2 * N) - 1 * (p.2.2.2 * rsq (B * B - 4 * A * C) N)) * (tn (2 * A) * (2 * A * xq p N + B * p.2.2.2 * N) - -1 * (p.2.2.2 * rsq (B * B - 4 * A * C) N)) - N * (4 * A * vq p A B C N)
  generalize xq p N = X
  generalize vq p A B C N = V
  generalize rsq (B * B - 4 * A * C) N = r
  generalize tn (2 * A) = k at *
  have e : (k * (2 * A * X + B * p.2.2.2 * N) - 1 * (p.2.2.2 * r)) * (k * (2 * A * X + B * p.2.2.2 * N) - -1 * (p.2.2.2 * r)) = k * k * ((2 * A * X + B * p.2.2.2 * N) * (2 * A * X + B * p.2.2.2 * N)) - p.2.2.2 * r * (p.2.2.2 * r) := by grind
  rw [e, t]
  grind
theorem sg_ngD {p : Pt} {A B C : Int} (hp : pk p) (hA : A ≠ 0) (hD : B * B - 4 * A * C < 0) : sgP p A B C = cmpI A 0 := by
  have o4 : cmpI (4 * A) 0 = cmpI A 0 := by unfold cmpI; (repeat' split) <;> omega
  have o := sSg_cm (4 * A) (sgP_ok hp A B C)
  rw [o4] at o
  have h1 : sPos (fun N => 4 * A * vq p A B C N) := by
    obtain ⟨K, k0, hK⟩ := sLe_smul (4 * A) (vq_er hp A B C)
    have hp2 : sPos (fun N => 4 * A * vq p A B C N + K) := by
      refine ⟨K, k0, fun N hN => ?_⟩
      have a : 4 * A * (A * xq p N * xq p N + B * p.2.2.2 * N * xq p N + C * p.2.2.2 * p.2.2.2 * N * N - N * vq p A B C N) ≤ K * N := (hK N hN).2
      show N ≤ K * (4 * A * vq p A B C N + K)
      generalize xq p N = X at *
      generalize vq p A B C N = V at *
      have e1 : 4 * A * (A * X * X + B * p.2.2.2 * N * X + C * p.2.2.2 * p.2.2.2 * N * N - N * V) = (2 * A * X + B * p.2.2.2 * N) * (2 * A * X + B * p.2.2.2 * N) + -(B * B - 4 * A * C) * (p.2.2.2 * N * (p.2.2.2 * N)) - N * (4 * A * V) := by grind
      have s1 := sqn (2 * A * X + B * p.2.2.2 * N)
      have q1 : N ≤ p.2.2.2 * N := by
        have := mmul (show 1 ≤ p.2.2.2 from hp.2) (show 0 ≤ N by omega)
        have e : N * p.2.2.2 = p.2.2.2 * N := Int.mul_comm _ _
        omega
      have q2 := Int.mul_le_mul q1 q1 (show 0 ≤ N by omega) (by omega)
      have q3 := mmul (show 1 ≤ -(B * B - 4 * A * C) by omega) (show 0 ≤ p.2.2.2 * N * (p.2.2.2 * N) from sqn _)
      have e2 : p.2.2.2 * N * (p.2.2.2 * N) * -(B * B - 4 * A * C) = -(B * B - 4 * A * C) * (p.2.2.2 * N * (p.2.2.2 * N)) := Int.mul_comm _ _
      have e3 : N * (4 * A * V + K) = N * (4 * A * V) + K * N := by grind
      have q4 : N ≤ 4 * A * V + K := mcan (show 0 < N by omega) (by omega)
      have q5 := mmul (show 1 ≤ K by omega) (show 0 ≤ 4 * A * V + K by omega)
      have e4 : (4 * A * V + K) * K = K * (4 * A * V + K) := Int.mul_comm _ _
      omega
    obtain ⟨J, j0, hJ⟩ := sPos_bd hp2 (⟨K, k0, fun N _ => ⟨by show -K ≤ -K; omega, by show -K ≤ K; omega⟩⟩ : sBd (fun _ => -K))
    exact ⟨J, j0, fun N hN => by have : N ≤ J * (4 * A * vq p A B C N + K + -K) := hJ N hN; rw [show 4 * A * vq p A B C N + K + -K = 4 * A * vq p A B C N by omega] at this; exact this⟩
  have e := sSg_uq o (Or.inl ⟨rfl, h1⟩)
  rcases cm_ne hA with h | h <;> rw [h] at e ⊢ <;> omega
theorem sRd {D : Int} (hD : 0 ≤ D) {q : Int} (hq : 0 < q) : sSg (if D = 0 then 0 else 1) (fun N => q * rsq D N) := by
  refine sSg_mul hq ?_
  have := sRt hD 1
  rw [show cmpI 1 0 = 1 by decide] at this
  exact sSg_eq (fun N _ => Int.one_mul _) this
/-- the slope at a root -/
theorem sg_der {p R : Pt} {A B D h : Int} (hp : pk p) (hA : A ≠ 0) (hD : 0 ≤ D) (hR : rtQ A B D h R) (hh : h = 1 ∨ h = -1) (h0 : ordP p R = 0) : sgP p 0 (2 * A) B = cmpI A 0 * (h * (if D = 0 then 0 else 1)) := by
  have o := ord_rt hp hR
  rw [h0] at o
  have hz : sSg (h * (if D = 0 then 0 else 1)) (fun N => h * (p.2.2.2 * rsq D N)) := by
    have := sSg_cm h (sRd hD hp.2)
    rw [show cmpI h 0 = h by rcases hh with e | e <;> rw [e] <;> decide] at this
    exact this
  have hy := sSg_cm (tn (2 * A)) (sSg_bd hz (sSg_0 o))
  rw [show cmpI (tn (2 * A)) 0 = cmpI A 0 by rw [cm_tn hA]; rcases cm_ne hA with e | e <;> rw [e] <;> decide] at hy
  refine sSg_uq (sgP_ok hp 0 (2 * A) B) (sSg_eq (fun N _ => (vq_0 p (2 * A) B N).symm) (sSg_mul hp.2 (sSg_eq (fun N _ => ?_) hy)))
  have t := tn_sq A
  show tn (2 * A) * (h * (p.2.2.2 * rsq D N) + (tn (2 * A) * (2 * A * xq p N + B * p.2.2.2 * N) - h * (p.2.2.2 * rsq D N))) = 2 * A * xq p N + B * p.2.2.2 * N
  generalize xq p N = X
  generalize rsq D N = r
  generalize tn (2 * A) = k at *
  have e : k * (h * (p.2.2.2 * r) + (k * (2 * A * X + B * p.2.2.2 * N) - h * (p.2.2.2 * r))) = k * k * (2 * A * X + B * p.2.2.2 * N) := by grind
  rw [e, t, Int.one_mul]
theorem ord_UW {U W : Pt} {A B D : Int} (hA : A ≠ 0) (hD : 0 ≤ D) (hU : rtQ A B D 1 U) (hW : rtQ A B D (-1) W) : ordP U W = if D = 0 then 0 else 1 := by
  refine sSg_uq (ord_ok hU.1 hW.1) (sSg_eq (fun N hN => ?_) (sRd (q := 2 * U.2.2.2) hD (by have := hU.1.2; omega)))
  show 2 * U.2.2.2 * rsq D N = W.2.2.2 * xq U N - U.2.2.2 * xq W N
  rw [hU.2.2 N hN, hW.2.2 N hN, hU.2.1, hW.2.1]
  grind
def goS (p : Pt) (A B C : Int) : Int := if sgP p A B C = 0 then (if sgP p 0 (2 * A) B = 0 then cmpI A 0 else sgP p 0 (2 * A) B) else sgP p A B C
theorem go_c {p : Pt} {A B C v : Int} (h : sgP p A B C = v) (hv : v ≠ 0) : goS p A B C = v := by unfold goS; rw [h, if_neg hv]
theorem go_d {p : Pt} {A B C v : Int} (h : sgP p A B C = 0) (h2 : sgP p 0 (2 * A) B = v) (hv : v ≠ 0) : goS p A B C = v := by unfold goS; rw [h, if_pos rfl, h2, if_neg hv]
theorem go_e {p : Pt} {A B C : Int} (h : sgP p A B C = 0) (h2 : sgP p 0 (2 * A) B = 0) : goS p A B C = cmpI A 0 := by unfold goS; rw [h, if_pos rfl, h2, if_pos rfl]
theorem pm_eq {k x y : Int} (hk : k = -1 ∨ k = 1) (h : k * x = y) : x = k * y := by rcases hk with rfl | rfl <;> omega
theorem pm_ne {k x : Int} (hk : k = -1 ∨ k = 1) (hx : x ≠ 0) : k * x ≠ 0 := by rcases hk with rfl | rfl <;> omega
/-- right behind a root and behind it, up to the next one, the sign is the same -/
theorem str_q {a r U W : Pt} {A B C : Int} (hA : A ≠ 0) (hD : 0 ≤ B * B - 4 * A * C) (hU : rtQ A B (B * B - 4 * A * C) 1 U) (hW : rtQ A B (B * B - 4 * A * C) (-1) W) (ha : pk a) (hr : pk r) (har : ordP a r = -1) (cU : ordP U a ≤ 0 ∨ ordP r U = -1) (cW : ordP W a ≤ 0 ∨ ordP r W = -1) : goS a A B C = sgP r A B C := by
  have pa := pm_eq (cm_ne hA) (sg_prd ha hA hD hU hW)
  have pr := pm_eq (cm_ne hA) (sg_prd hr hA hD hU hW)
  have uw := ord_UW hA hD hU hW
  have dU := sg_der ha hA hD hU (Or.inl rfl)
  have dW := sg_der ha hA hD hW (Or.inr rfl)
  have hra : ordP r a = 1 := by rw [ord_sy ha hr, har]; rfl
  have s1 := ord_sy hU.1 ha
  have s2 := ord_sy hW.1 ha
  have hc := cm_ne hA
  have u3 := ord_3 a U
  have w3 := ord_3 a W
  have uw2 : ordP U W = 0 ∨ ordP U W = 1 := by rw [uw]; split <;> omega
  rcases cU with cU | cU
  · have rU : ordP r U = 1 := ord_tr hr ha hU.1 hra rfl (by omega)
    have rW : ordP r W = 1 := ord_tr hr hU.1 hW.1 rU rfl (by omega)
    rw [rU, rW] at pr
    rw [pr]
    by_cases e : ordP a U = 0
    · rw [e, Int.zero_mul, Int.mul_zero] at pa
      have d := dU e
      by_cases e2 : B * B - 4 * A * C = 0
      · rw [if_pos e2, Int.mul_zero, Int.mul_zero] at d
        rw [go_e pa d]
        omega
      · rw [if_neg e2] at d
        exact go_d pa d (pm_ne hc (by decide))
    · have aU : ordP a U = 1 := by omega
      have aW : ordP a W = 1 := ord_tr ha hU.1 hW.1 aU rfl (by omega)
      rw [aU, aW] at pa
      exact go_c pa (pm_ne hc (by decide))
  · have aU : ordP a U = -1 := ord_tr ha hr hU.1 har cU (Or.inr rfl)
    rw [cU] at pr
    rw [aU] at pa
    rcases cW with cW | cW
    · have rW : ordP r W = 1 := ord_tr hr ha hW.1 hra rfl (by omega)
      rw [rW] at pr
      rw [pr]
      by_cases e : ordP a W = 0
      · rw [e, Int.mul_zero, Int.mul_zero] at pa
        have d := dW e
        by_cases e2 : B * B - 4 * A * C = 0
        · rw [if_pos e2] at uw
          have z : ordP a U = 0 := ord_tr ha hW.1 hU.1 e (by rw [ord_sy hU.1 hW.1, uw]; rfl) (Or.inl rfl)
          omega
        · rw [if_neg e2] at d
          exact go_d pa d (pm_ne hc (by decide))
      · have aW : ordP a W = 1 := by omega
        rw [aW] at pa
        exact go_c pa (pm_ne hc (by decide))
    · have aW : ordP a W = -1 := ord_tr ha hr hW.1 har cW (Or.inr rfl)
      rw [aW] at pa
      rw [cW] at pr
      rw [pr]
      exact go_c pa (pm_ne hc (by decide))
theorem str_l {a r R : Pt} {B C : Int} (hB : B ≠ 0) (hR : rtL B C R) (ha : pk a) (hr : pk r) (har : ordP a r = -1) (cR : ordP R a ≤ 0 ∨ ordP r R = -1) : goS a 0 B C = sgP r 0 B C := by
  have pa := sg_lin ha hR
  have pr := sg_lin hr hR
  have hra : ordP r a = 1 := by rw [ord_sy ha hr, har]; rfl
  have s1 := ord_sy hR.1 ha
  have hc := cm_ne hB
  have u3 := ord_3 a R
  rcases cR with cR | cR
  · have rR : ordP r R = 1 := ord_tr hr ha hR.1 hra rfl (by omega)
    rw [rR] at pr
    rw [pr]
    by_cases e : ordP a R = 0
    · rw [e, Int.mul_zero] at pa
      have d : sgP a 0 (2 * 0) B = cmpI B 0 * 1 := by rw [Int.mul_zero, sg_con ha, Int.mul_one]
      exact go_d pa d (pm_ne hc (by decide))
    · have aR : ordP a R = 1 := by omega
      rw [aR] at pa
      exact go_c pa (pm_ne hc (by decide))
  · have aR : ordP a R = -1 := ord_tr ha hr hR.1 har cR (Or.inr rfl)
    rw [aR] at pa
    rw [cR] at pr
    rw [pr]
    exact go_c pa (pm_ne hc (by decide))
theorem str_c {a r : Pt} (ha : pk a) (hr : pk r) (C : Int) : goS a 0 0 C = sgP r 0 0 C := by
  have pa := sg_con ha C
  have pr := sg_con hr C
  have d : sgP a 0 (2 * 0) 0 = 0 := by rw [Int.mul_zero, sg_con ha]; decide
  by_cases e : cmpI C 0 = 0
  · rw [e] at pa pr
    rw [go_e pa d, pr]
    decide
  · rw [go_c pa e, pr]
/-- far on the left -/
def faS (A B C : Int) : Int := if A ≠ 0 then cmpI A 0 else if B ≠ 0 then -cmpI B 0 else cmpI C 0
theorem far_q {r U W : Pt} {A B C : Int} (hA : A ≠ 0) (hD : 0 ≤ B * B - 4 * A * C) (hU : rtQ A B (B * B - 4 * A * C) 1 U) (hW : rtQ A B (B * B - 4 * A * C) (-1) W) (hr : pk r) (cU : ordP r U = -1) (cW : ordP r W = -1) : faS A B C = sgP r A B C := by
  have pr := pm_eq (cm_ne hA) (sg_prd hr hA hD hU hW)
  rw [cU, cW] at pr
  unfold faS
  rw [if_pos hA, pr]
  omega
theorem far_l {r R : Pt} {B C : Int} (hB : B ≠ 0) (hR : rtL B C R) (hr : pk r) (cR : ordP r R = -1) : faS 0 B C = sgP r 0 B C := by
  have pr := sg_lin hr hR
  rw [cR] at pr
  unfold faS
  rw [if_neg (by omega), if_pos hB, pr]
  omega
