/-! how near two points can be -/
theorem gapB {f : Int → Int} {s c : Int} (h : sSg s (fun N => 4194304 * f N - c * N)) (hn : ¬ sPos (fun N => 4194304 * f N - c * N)) : ∃ K : Int, 0 < K ∧ ∀ N, K ≤ N → 4194304 * f N ≤ c * N + K := by
  rcases h with ⟨_, h⟩ | ⟨_, K, k0, hK⟩ | ⟨_, K, k0, hK⟩
  · exact absurd h hn
  · refine ⟨K, k0, fun N hN => ?_⟩
    have : 4194304 * f N - c * N ≤ K := (hK N hN).2
    omega
  · refine ⟨K, k0, fun N hN => ?_⟩
    have a : N ≤ K * -(4194304 * f N - c * N) := hK N hN
    have := mpos (show 0 ≤ K by omega) (show 0 < K * -(4194304 * f N - c * N) by omega)
    omega
theorem gap0 {u c : Int} (hc : 0 ≤ c ∧ c ≤ 1000) (hx : sPos (fun N => u * N)) : sPos (fun N => 4194304 * (u * N) - c * N) := by
  obtain ⟨K, k0, hK⟩ := hx
  have a : K ≤ K * (u * K) := hK K (Int.le_refl _)
  have b := mpos (show 0 ≤ K by omega) (show 0 < K * (u * K) by omega)
  rw [Int.mul_comm] at b
  have u0 := mpos (show 0 ≤ K by omega) b
  refine sPos_w (fun N hN => ?_)
  have p := mmul (show 1 ≤ 4194304 * u - c by omega) (show 0 ≤ N by omega)
  have e : N * (4194304 * u - c) = 4194304 * (u * N) - c * N := by grind
  omega
theorem gap1 {u v d c : Int} (hu : -500 ≤ u ∧ u ≤ 500) (hv : v ≠ 0) (hd : 1 ≤ d) (hvd : v * v * d ≤ 160000) (hc : 0 ≤ c ∧ c ≤ 100) (hx : sPos (fun N => u * N + v * rsq d N)) : sPos (fun N => 4194304 * (u * N + v * rsq d N) - c * N) := by
  apply Classical.byContradiction
  intro hn
  have tri : sSg (sg3 (4194304 * u - c) (4194304 * v) d) (fun N => 4194304 * (u * N + v * rsq d N) - c * N) := by
    refine sSg_eq (fun N _ => ?_) (sg3_ok (show 0 ≤ d by omega) (4194304 * u - c) (4194304 * v))
    grind
  obtain ⟨K, k0, hK⟩ := gapB tri hn
  obtain ⟨K1, k10, hK1⟩ := hx
  have hN : ∃ N, N = K + 1000000 * K1 + 10000000 := ⟨_, rfl⟩
  obtain ⟨N, hN⟩ := hN
  have b1 := hK N (by omega)
  have b2 : N ≤ K1 * (u * N + v * rsq d N) := hK1 N (by omega)
  have er := rsq_er (show 0 ≤ d by omega) (show 0 < N by omega)
  generalize rsq d N = r at *
  have x0 := mpos (show 0 ≤ K1 by omega) (show 0 < K1 * (u * N + v * r) by omega)
  have cN : c * N ≤ 100 * N := by
    have := mmul hc.2 (show 0 ≤ N by omega)
    have e1 : N * c = c * N := Int.mul_comm _ _
    have e2 : N * 100 = 100 * N := Int.mul_comm _ _
    omega
  have vv := sqn v
  have p0 := Int.mul_nonneg vv er.1
  have p1 := mmul er.2 vv
  have e3 : v * v * (2 * d * N) = 2 * (N * (v * v * d)) := by grind
  have p2 := mmul hvd (show 0 ≤ N by omega)
  have e4 : v * v * (d * N * N - r * r) = v * v * d * (N * N) - v * r * (v * r) := by grind
  have p3 := mmul hvd (sqn N)
  have e5 : N * N * (v * v * d) = v * v * d * (N * N) := Int.mul_comm _ _
  have e6 : 400 * N * (400 * N) = N * N * 160000 := by grind
  have v1 := sq_le (a := v * r) (b := 400 * N) (by omega) (by omega)
  have v2 := sq_le (a := -(v * r)) (b := 400 * N) (by omega) (by rw [Int.neg_mul_neg]; omega)
  have un := mb hu (⟨by omega, Int.le_refl N⟩ : -N ≤ N ∧ N ≤ N)
  have e7 : (u * N + v * r) * (u * N - v * r) = u * u * (N * N) - v * r * (v * r) := by grind
  have e8 : (u * u - v * v * d) * (N * N) = u * u * (N * N) - v * v * d * (N * N) := by grind
  have e9 : 2 * (u * N) = u * N + v * r + (u * N - v * r) := by omega
  generalize v * r = V at *
  generalize hX : u * N + V = X at *
  generalize hY : u * N - V = Y at *
  have nn := Int.mul_pos (show 0 < N by omega) (show 0 < N by omega)
  have pY := mb (⟨by omega, Int.le_refl X⟩ : -X ≤ X ∧ X ≤ X) (⟨by omega, by omega⟩ : -(900 * N) ≤ Y ∧ Y ≤ 900 * N)
  have e10 : X * (900 * N) = N * (900 * X) := by grind
  by_cases hM : u * u - v * v * d = 0
  · rw [hM, Int.zero_mul] at e8
    have q1 : 0 ≤ X * Y := by omega
    have q2 : X * Y ≤ 320000 * N := by omega
    have y0 : 0 ≤ Y := by
      apply Int.not_lt.mp
      intro h
      have := Int.mul_pos x0 (show 0 < -Y by omega)
      rw [Int.mul_neg] at this
      omega
    have q3 := mmul b2 y0
    have q4 := mmul q2 (show 0 ≤ K1 by omega)
    have e11 : Y * (K1 * X) = K1 * (X * Y) := by grind
    have e12 : K1 * (320000 * N) = N * (320000 * K1) := by grind
    have q5 : Y ≤ 320000 * K1 := mcan (show 0 < N by omega) (by rw [Int.mul_comm N Y]; omega)
    have u0 : 0 < u := by
      have : 0 < N * u := by rw [Int.mul_comm]; omega
      rcases Int.lt_or_le 0 u with h | h
      · exact h
      · exfalso
        by_cases h9 : u = 0
        · rw [h9, Int.zero_mul] at hM
          have h7 : v * v * d = 0 := by omega
          have h8 : 0 < v * v := by
            rcases Int.lt_or_le 0 v with z | z
            · exact Int.mul_pos z z
            · have := Int.mul_pos (show 0 < -v by omega) (show 0 < -v by omega)
              rw [Int.neg_mul_neg] at this
              exact this
          have := Int.mul_pos h8 (show 0 < d by omega)
          omega
        · have := Int.mul_nonneg (show 0 ≤ N by omega) (show 0 ≤ -u by omega)
          rw [Int.mul_neg] at this
          omega
    have q6 := mmul (show 1 ≤ u by omega) (show 0 ≤ N by omega)
    have e13 : N * u = u * N := Int.mul_comm _ _
    omega
  · have hM2 : N * N ≤ (u * u - v * v * d) * (N * N) ∨ (u * u - v * v * d) * (N * N) ≤ -(N * N) := by
      rcases Int.lt_or_le 0 (u * u - v * v * d) with h | h
      · have := mmul (show 1 ≤ u * u - v * v * d by omega) (show 0 ≤ N * N by omega)
        have e : N * N * (u * u - v * v * d) = (u * u - v * v * d) * (N * N) := Int.mul_comm _ _
        omega
      · have := mmul (show 1 ≤ -(u * u - v * v * d) by omega) (show 0 ≤ N * N by omega)
        have e : N * N * -(u * u - v * v * d) = -((u * u - v * v * d) * (N * N)) := by rw [Int.mul_neg, Int.mul_comm]
        omega
    have q7 : N * N ≤ N * (900 * X + 320000) := by
      have e : N * (900 * X + 320000) = N * (900 * X) + 320000 * N := by grind
      omega
    have q8 := mcan (show 0 < N by omega) q7
    omega
theorem gap2 {u v d w e : Int} (hu : -54 ≤ u ∧ u ≤ 54) (hd : 1 ≤ d) (hvd : v * v * d ≤ 1600) (hw : w * w = 1) (he : 1 ≤ e ∧ e ≤ 484) (hx : sPos (fun N => u * N + v * rsq d N + w * rsq e N)) : sPos (fun N => 4194304 * (u * N + v * rsq d N + w * rsq e N) - 4 * N) := by
  apply Classical.byContradiction
  intro hn
  have tri : sSg (sg5 (4194304 * u - 4) (4194304 * v) d (4194304 * w) e) (fun N => 4194304 * (u * N + v * rsq d N + w * rsq e N) - 4 * N) := by
    refine sSg_eq (fun N _ => ?_) (sg5_ok (show 0 ≤ d by omega) (show 0 ≤ e by omega) (4194304 * u - 4) (4194304 * v) (4194304 * w))
    grind
  obtain ⟨K, k0, hK⟩ := gapB tri hn
  obtain ⟨K1, k10, hK1⟩ := hx
  have hN : ∃ N, N = K + 1000000000 * K1 + 10000000000 := ⟨_, rfl⟩
  obtain ⟨N, hN⟩ := hN
  have b1 := hK N (by omega)
  have b2 : N ≤ K1 * (u * N + v * rsq d N + w * rsq e N) := hK1 N (by omega)
  have er := rsq_er (show 0 ≤ d by omega) (show 0 < N by omega)
  have er2 := rsq_er (show 0 ≤ e by omega) (show 0 < N by omega)
  have lo := rsq_lo he.1 (show 0 < N by omega)
  generalize rsq d N = r at *
  generalize rsq e N = t at *
  have x0 := mpos (show 0 ≤ K1 by omega) (show 0 < K1 * (u * N + v * r + w * t) by omega)
  have vv := sqn v
  have p0 := Int.mul_nonneg vv er.1
  have p1 := mmul er.2 vv
  have e3 : v * v * (2 * d * N) = 2 * (N * (v * v * d)) := by grind
  have p2 := mmul hvd (show 0 ≤ N by omega)
  have e4 : v * v * (d * N * N - r * r) = v * v * d * (N * N) - v * r * (v * r) := by grind
  have p3 := mmul hvd (sqn N)
  have e5 : N * N * (v * v * d) = v * v * d * (N * N) := Int.mul_comm _ _
  have e6 : 40 * N * (40 * N) = N * N * 1600 := by grind
  have v1 := sq_le (a := v * r) (b := 40 * N) (by omega) (by omega)
  have v2 := sq_le (a := -(v * r)) (b := 40 * N) (by omega) (by rw [Int.neg_mul_neg]; omega)
  have un := mb hu (⟨by omega, Int.le_refl N⟩ : -N ≤ N ∧ N ≤ N)
  have p4 := mmul he.2 (show 0 ≤ N by omega)
  have e7 : 2 * e * N = 2 * (N * e) := by grind
  have p5 := mmul he.2 (sqn N)
  have e8 : N * N * e = e * N * N := by grind
  have e9 : 22 * N * (22 * N) = N * N * 484 := by grind
  have t1 := sq_le (a := t) (b := 22 * N) (by omega) (by omega)
  have pm : w = 1 ∨ w = -1 := by
    have a1 := sqn (w - 1)
    have a2 := sqn (w + 1)
    have e10 : (w - 1) * (w - 1) = w * w - 2 * w + 1 := by grind
    have e11 : (w + 1) * (w + 1) = w * w + 2 * w + 1 := by grind
    by_cases h : w = 0
    · rw [h] at hw; exact absurd hw (by decide)
    · omega
  have wt : (w * t = t) ∨ (w * t = -t) := by rcases pm with h | h <;> rw [h] <;> omega
  have uu := mb hu hu
  have u0 := sqn u
  have vd0 := Int.mul_nonneg vv (show 0 ≤ d by omega)
  have uV := mb hu (⟨by omega, v1⟩ : -(40 * N) ≤ v * r ∧ v * r ≤ 40 * N)
  -- A, y, its mate
  obtain ⟨A, hA⟩ : ∃ A, A = u * u + v * v * d - e := ⟨_, rfl⟩
  have aN := mb (⟨by omega, by omega⟩ : -5000 ≤ A ∧ A ≤ 5000) (⟨by omega, Int.le_refl N⟩ : -N ≤ N ∧ N ≤ N)
  have id1 : (u * N + v * r + w * t) * (u * N + v * r + w * t - 2 * (w * t)) = N * (A * N + 2 * (u * (v * r))) - v * v * (d * N * N - r * r) + (e * N * N - t * t) := by
    have z : (u * N + v * r + w * t) * (u * N + v * r + w * t - 2 * (w * t)) = (u * N + v * r) * (u * N + v * r) - w * w * (t * t) := by grind
    rw [z, hw, hA]
    grind
  have id2 : (A * N + 2 * (u * (v * r))) * (A * N - 2 * (u * (v * r))) = (A * A - 4 * (u * u) * (v * v * d)) * (N * N) + 4 * (u * u) * (v * v * (d * N * N - r * r)) := by grind
  have hP : 0 ≤ v * v * (d * N * N - r * r) ∧ v * v * (d * N * N - r * r) ≤ 3200 * N := by omega
  have hQ : 0 ≤ e * N * N - t * t ∧ e * N * N - t * t ≤ 968 * N := by omega
  have u4 := Int.mul_le_mul (show 4 * (u * u) ≤ 11664 by omega) hP.2 hP.1 (by omega)
  have u5 := Int.mul_nonneg (show 0 ≤ 4 * (u * u) by omega) hP.1
  have sumy : A * N + 2 * (u * (v * r)) + (A * N - 2 * (u * (v * r))) = 2 * (A * N) := by omega
  have hy0 : A = 0 → A * A - 4 * (u * u) * (v * v * d) = 0 → A * N + 2 * (u * (v * r)) = 0 := by
    intro h1 h2
    rw [h1] at h2 ⊢
    have h3 : u * u * (v * v * d) = 0 := by
      have e12 : 4 * (u * u) * (v * v * d) = 4 * (u * u * (v * v * d)) := by grind
      omega
    have h4 : u * v * (u * v) * d = 0 := by rw [← h3]; grind
    have h5 : u * v = 0 := by
      apply Classical.byContradiction
      intro h6
      have h7 : 0 < u * v * (u * v) := by
        rcases Int.lt_or_le 0 (u * v) with z | z
        · exact Int.mul_pos z z
        · have := Int.mul_pos (show 0 < -(u * v) by omega) (show 0 < -(u * v) by omega)
          rw [Int.neg_mul_neg] at this
          exact this
      have := Int.mul_pos h7 (show 0 < d by omega)
      omega
    rw [← Int.mul_assoc u v r, h5]
    omega
  generalize A * A - 4 * (u * u) * (v * v * d) = M at *
  generalize v * v * (d * N * N - r * r) = Pp at *
  generalize e * N * N - t * t = Qq at *
  generalize hy : A * N + 2 * (u * (v * r)) = y at *
  generalize hz : A * N - 2 * (u * (v * r)) = z at *
  have zb9 : -(9320 * N) ≤ z ∧ z ≤ 9320 * N := by omega
  generalize hX : u * N + v * r + w * t = X at *
  generalize hW : w * t = T at *
  have Xs : 4194304 * X ≤ 5 * N := by omega
  have gb : -(45 * N) ≤ X - 2 * T ∧ X - 2 * T ≤ 45 * N := by omega
  have pg := mb (⟨by omega, Int.le_refl X⟩ : -X ≤ X ∧ X ≤ X) gb
  have e13 : X * (45 * N) = N * (45 * X) := by grind
  have y1 : y ≤ 45 * X + 4200 := mcan (show 0 < N by omega) (by
    have e : N * (45 * X + 4200) = N * (45 * X) + 4200 * N := by grind
    omega)
  have y2 : -(45 * X + 4200) ≤ y := mcan (show 0 < N by omega) (by
    have e : N * -(45 * X + 4200) = -(N * (45 * X)) - 4200 * N := by grind
    omega)
  have pyz := mb (⟨y2, y1⟩ : -(45 * X + 4200) ≤ y ∧ y ≤ 45 * X + 4200) zb9
  have e14 : (45 * X + 4200) * (9320 * N) = N * (9320 * (45 * X + 4200)) := by grind
  have nn := Int.mul_pos (show 0 < N by omega) (show 0 < N by omega)
  by_cases hM : M = 0
  · rw [hM, Int.zero_mul] at id2
    have y3 : -37324800 ≤ y ∧ y ≤ 37324800 := by
      by_cases hA0 : A = 0
      · have := hy0 hA0 hM
        omega
      · have zz : N ≤ z ∨ z ≤ -N := by
          rcases Int.lt_or_le 0 A with h | h
          · have := mmul (show 1 ≤ A by omega) (show 0 ≤ N by omega)
            have e : N * A = A * N := Int.mul_comm _ _
            omega
          · have := mmul (show 1 ≤ -A by omega) (show 0 ≤ N by omega)
            have e : N * -A = -(A * N) := by rw [Int.mul_neg, Int.mul_comm]
            omega
        have yz1 : y * z ≤ N * 37324800 := by
          have e : N * 37324800 = 37324800 * N := Int.mul_comm _ _
          omega
        have yz2 : 0 ≤ y * z := by omega
        have key : ∀ a b : Int, 0 ≤ a → N ≤ b → a * b ≤ N * 37324800 → a ≤ 37324800 := fun a b h1 h2 h3 => by
          have := mmul h2 h1
          have e : a * N = N * a := Int.mul_comm _ _
          exact mcan (show 0 < N by omega) (by omega)
        rcases zz with h | h
        · have y0 : 0 ≤ y := by
            apply Int.not_lt.mp
            intro q
            have := Int.mul_pos (show 0 < -y by omega) (show 0 < z by omega)
            rw [Int.neg_mul] at this
            omega
          have := key y z y0 h yz1
          omega
        · have y0 : y ≤ 0 := by
            apply Int.not_lt.mp
            intro q
            have := Int.mul_pos q (show 0 < -z by omega)
            rw [Int.mul_neg] at this
            omega
          have := key (-y) (-z) (by omega) (by omega) (by rw [Int.neg_mul_neg]; exact yz1)
          omega
    have n1 := mmul y3.1 (show 0 ≤ N by omega)
    have n2 := mmul y3.2 (show 0 ≤ N by omega)
    have g1 : -(37330000 * N) ≤ X * (X - 2 * T) ∧ X * (X - 2 * T) ≤ 37330000 * N := by omega
    have key2 : ∀ g : Int, X * g ≤ 37330000 * N → g ≤ 37330000 * K1 := fun g h => by
      rcases Int.lt_or_le 0 g with hg | hg
      · have q1 := mmul b2 (show 0 ≤ g by omega)
        have q2 := mmul h (show 0 ≤ K1 by omega)
        have e15 : g * (K1 * X) = K1 * (X * g) := by grind
        have e16 : K1 * (37330000 * N) = N * (37330000 * K1) := by grind
        have e17 : g * N = N * g := Int.mul_comm _ _
        exact mcan (show 0 < N by omega) (by omega)
      · omega
    have g2 := key2 _ g1.2
    have g3 := key2 (-(X - 2 * T)) (by rw [Int.mul_neg]; omega)
    omega
  · have hM2 : N * N ≤ M * (N * N) ∨ M * (N * N) ≤ -(N * N) := by
      rcases Int.lt_or_le 0 M with h | h
      · have := mmul (show 1 ≤ M by omega) (show 0 ≤ N * N by omega)
        have e : N * N * M = M * (N * N) := Int.mul_comm _ _
        omega
      · have := mmul (show 1 ≤ -M by omega) (show 0 ≤ N * N by omega)
        have e : N * N * -M = -(M * (N * N)) := by rw [Int.mul_neg, Int.mul_comm]
        omega
    have q7 : N * N ≤ N * (9320 * (45 * X + 4200) + 37324800) := by
      have e : N * (9320 * (45 * X + 4200) + 37324800) = N * (9320 * (45 * X + 4200)) + 37324800 * N := by grind
      omega
    have q8 := mcan (show 0 < N by omega) q7
    omega
