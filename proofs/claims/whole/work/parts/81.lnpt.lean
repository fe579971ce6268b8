/-! the two have the same points -/
theorem zfo_app {σ : Type} {f : Int → σ → σ} : ∀ (a b : Nat) (i : Int) (s : σ), zfo f (a + b) i s = zfo f b (i + a) (zfo f a i s)
  | 0, b, i, s => by rw [Nat.zero_add, show i + ((0 : Nat) : Int) = i by omega]; rfl
  | a + 1, b, i, s => by
    rw [show a + 1 + b = (a + b) + 1 by omega, show i + ((a + 1 : Nat) : Int) = i + 1 + (a : Int) by omega]
    exact zfo_app a b (i + 1) (f i s)
theorem zfo_sh {σ : Type} {f : Int → σ → σ} : ∀ (k : Nat) (i : Int) (s : σ), zfo f k (i + 1) s = zfo (fun j => f (j + 1)) k i s
  | 0, _, _ => rfl
  | k + 1, i, s => zfo_sh k (i + 1) (f (i + 1) s)
theorem zfo_skip {σ : Type} {f g : Int → σ → σ} {n x : Int} {s : σ} (hx : 0 ≤ x ∧ x < n) (h0 : ∀ s, f x s = s) (h1 : ∀ l s, 0 ≤ l → l < x → f l s = g l s) (h2 : ∀ l s, x ≤ l → l < n - 1 → f (l + 1) s = g l s) : zfo f (n - 0).toNat 0 s = zfo g (n - 1 - 0).toNat 0 s := by
  rw [show (n - 0).toNat = x.toNat + (1 + (n - 1 - x).toNat) by omega, show (n - 1 - 0).toNat = x.toNat + (n - 1 - x).toNat by omega, zfo_app, zfo_app, zfo_app, zfo_cong (f := f) (g := g) x.toNat 0 s (fun j s q1 q2 => h1 j s q1 (by omega))]
  rw [show (0 : Int) + (x.toNat : Int) = x by omega]
  show zfo f (n - 1 - x).toNat (x + ((1 : Nat) : Int)) (f x _) = _
  rw [h0, show x + ((1 : Nat) : Int) = x + 1 by omega, zfo_sh]
  exact zfo_cong _ _ _ (fun j s q1 q2 => h2 j s q1 (by omega))
theorem zsm_app {f : Int → Int} : ∀ (a b : Nat) (i : Int), zsm f (a + b) i = zsm f a i + zsm f b (i + a)
  | 0, b, i => by rw [Nat.zero_add, show i + ((0 : Nat) : Int) = i by omega]; unfold zsm; omega
  | a + 1, b, i => by
    have := zsm_app (f := f) a b (i + 1)
    rw [show a + 1 + b = (a + b) + 1 by omega, show i + ((a + 1 : Nat) : Int) = i + 1 + (a : Int) by omega]
    show f i + zsm f (a + b) (i + 1) = f i + zsm f a (i + 1) + _
    omega
theorem zsm_sh {f : Int → Int} : ∀ (k : Nat) (i : Int), zsm f k (i + 1) = zsm (fun j => f (j + 1)) k i
  | 0, _ => rfl
  | k + 1, i => by
    show f (i + 1) + zsm f k (i + 1 + 1) = f (i + 1) + zsm (fun j => f (j + 1)) k (i + 1)
    rw [zsm_sh k (i + 1)]
theorem zsm_skip {f g : Int → Int} {n x : Int} (hx : 0 ≤ x ∧ x < n) (h0 : f x = 0) (h1 : ∀ l, 0 ≤ l → l < x → f l = g l) (h2 : ∀ l, x ≤ l → l < n - 1 → f (l + 1) = g l) : zsm f (n - 0).toNat 0 = zsm g (n - 1 - 0).toNat 0 := by
  rw [show (n - 0).toNat = x.toNat + (1 + (n - 1 - x).toNat) by omega, show (n - 1 - 0).toNat = x.toNat + (n - 1 - x).toNat by omega, zsm_app, zsm_app, zsm_app, zsm_cong (f := f) (g := g) x.toNat 0 (fun j q1 q2 => h1 j q1 (by omega))]
  rw [show (0 : Int) + (x.toNat : Int) = x by omega]
  have e : zsm f 1 x = 0 := by show f x + 0 = 0; omega
  rw [e, show x + ((1 : Nat) : Int) = x + 1 by omega, zsm_sh, zsm_cong (f := fun j => f (j + 1)) (g := g) (n - 1 - x).toNat x (fun j q1 q2 => h2 j q1 (by omega))]
  omega
theorem tn_neg {q : Int} (h : q ≠ 0) : tn (-q) = -tn q := by unfold tn; (repeat' split) <;> omega
theorem meM_Q {s : PtS} {A B C : Int} : meM s (-A) (-B) (-C) = meQ s A B C := by
  have ed : -B * -B - 4 * -A * -C = B * B - 4 * A * C := by grind
  unfold meM meQ
  by_cases hA : A = 0
  · rw [if_pos (show -A = 0 by omega), if_pos hA]
    unfold enR
    by_cases hB : B = 0
    · rw [if_pos (show -B = 0 by omega), cif_t hB]
    · rw [if_neg (show ¬ -B = 0 by omega), cif_f hB, nrm_0, tn_neg hB]
      congr 1
      refine Prod.ext ?_ (Prod.ext ?_ (Prod.ext rfl ?_))
      · show -tn B * (0 - -C) = tn B * -C
        grind
      · show (0 : Int) = tn B * 0
        omega
      · show -tn B * -B = tn B * B
        grind
  · rw [if_neg (show ¬ -A = 0 by omega), if_neg hA, ed]
    by_cases hD : B * B - 4 * A * C < 0
    · rw [if_pos hD, if_pos hD]
    · rw [if_neg hD, if_neg hD]
      have t1 : tn (2 * -A) = -tn (2 * A) := by rw [show 2 * -A = -(2 * A) by omega]; exact tn_neg (by omega)
      have c2 : ¬ (2 * A = 0) := by omega
      generalize B * B - 4 * A * C = D at *
      unfold enR nrm
      rw [t1]
      by_cases hR : rtD D * rtD D = D
      · rw [if_pos hR, if_pos hR, if_pos hR, cif_f c2, cif_f c2]
        generalize tn (2 * A) = t
        generalize rtD D = r
        congr 1
        · congr 1
          refine Prod.ext ?_ (Prod.ext ?_ (Prod.ext rfl ?_))
          · show -t * (0 - -B) + -t * 1 * r = t * (-B - r)
            grind
          · show (0 : Int) = t * 0
            omega
          · show -t * (2 * -A) = t * (2 * A)
            grind
        · refine Prod.ext ?_ (Prod.ext ?_ (Prod.ext rfl ?_))
          · show -t * (0 - -B) + -t * -1 * r = t * (-B + r)
            grind
          · show (0 : Int) = t * 0
            omega
          · show -t * (2 * -A) = t * (2 * A)
            grind
      · rw [if_neg hR, if_neg hR, if_neg hR, cif_f c2, cif_f c2]
        generalize tn (2 * A) = t
        congr 1
        · congr 1
          refine Prod.ext ?_ (Prod.ext ?_ (Prod.ext rfl ?_))
          · show -t * (0 - -B) = t * -B
            grind
          · show -t * 1 = t * -1
            grind
          · show -t * (2 * -A) = t * (2 * A)
            grind
        · refine Prod.ext ?_ (Prod.ext ?_ (Prod.ext rfl ?_))
          · show -t * (0 - -B) = t * -B
            grind
          · show -t * -1 = t * 1
            grind
          · show -t * (2 * -A) = t * (2 * A)
            grind
/-- curve l of a row is curve k of the reference -/
def rq (mr : zMem) (o l : Int) (mm : zMem) (k : Int) : Prop := mm 82 k = mr (o + 2 + l) 0 ∧ mm 83 k = mr (o + 2 + l) 1 ∧ mm 84 k = mr (o + 2 + l) 2
theorem me_lp {mr mm : zMem} {o out l b k n : Int} {s : PtS} (hl : rq mr o l mm k) (hb : rq mr o b mm n) (hk : k ≠ out) (hn : n ≠ out) : lpI mm out k n s = meP (rowM mr o) 0 s l b := by
  obtain ⟨l1, l2, l3⟩ := hl
  obtain ⟨b1, b2, b3⟩ := hb
  unfold lpI meP
  rw [rowM_4, rowM_4, rowM_5, rowM_5, rowM_6, rowM_6, rowM_7, rowM_7, ← l1, ← b1, ← l2, ← b2, ← l3, ← b3]
  rcases Classical.em (k ≠ out ∧ n ≠ out ∧ mm 82 k ≠ 3 ∧ mm 82 n ≠ 3) with c | c
  · rw [cif_t c, cif_f (fun z => by rcases z with z | z; (exact c.2.2.1 (zb_1.mp z)); (exact c.2.2.2 (zb_1.mp z)))]
    rw [← meM_Q]
    congr 1 <;> omega
  · rw [cif_f c, cif_t]
    by_cases h3 : mm 82 k = 3
    · exact Or.inl (zb_t h3)
    · by_cases h4 : mm 82 n = 3
      · exact Or.inr (zb_t h4)
      · exact absurd ⟨hk, hn, h3, h4⟩ c
theorem st_lp {mr mm : zMem} {o out l k : Int} {s : PtS} (hl : rq mr o l mm k) (hk : k ≠ out) : cif (k ≠ out ∧ mm 82 k = 3) (entP s (nrm (mm 84 k) 0 0 1)) s = cif (rowM mr o (0 + 4) l = 1) (enR s (rowM mr o (0 + 7) l) 0 0 1) s := by
  rw [rowM_4, rowM_7, ← hl.1, ← hl.2.2]
  by_cases h : mm 82 k = 3
  · rw [cif_t ⟨hk, h⟩, cif_t (zb_t h)]
    unfold enR
    rw [cif_f (by decide), nrm_0]
    show entP s (tn 1 * mm 84 k, 0, 0, tn 1 * 1) = entP s (tn 1 * mm 84 k, tn 1 * 0, 0, tn 1 * 1)
    rw [Int.mul_zero]
  · rw [cif_f (fun z => h z.2), cif_f (fun z => h (zb_1.mp z))]
/-- the row's curves are the reference's -/
def curE (mr : zMem) (o : Int) (mm : zMem) : Prop := mm 80 2 = mr o 1 ∧ ∀ k, 0 ≤ k → k < mr o 1 → rq mr o k mm k
theorem lp_pt {mr mm : zMem} {o : Int} (h : curE mr o mm) : lpA mm (-1) = ptR mr o := by
  unfold lpA ptR allP
  rw [h.1, rowM_0]
  refine zfo_cong _ _ _ (fun a s q1 q2 => ?_)
  have ha := h.2 a q1 (by omega)
  unfold lpO stO
  rw [st_lp ha (by omega)]
  exact zfo_cong _ _ _ (fun b s y1 y2 => me_lp ha (h.2 b y1 (by omega)) (by omega) (by omega))
/-- the row's curves are the reference's but for one -/
def curO (mr : zMem) (o : Int) (mm : zMem) (x : Int) : Prop := (0 ≤ x ∧ x < mm 80 2) ∧ mr o 1 = mm 80 2 - 1 ∧ ∀ l, 0 ≤ l → l < mr o 1 → rq mr o l mm (if l < x then l else l + 1)
theorem lp_out {mr mm : zMem} {o x : Int} (h : curO mr o mm x) : lpA mm x = ptR mr o := by
  obtain ⟨h0, h1, h2⟩ := h
  unfold lpA ptR allP
  rw [rowM_0, h1]
  refine zfo_skip h0 (fun s => ?_) (fun l s q1 q2 => ?_) (fun l s q1 q2 => ?_)
  · unfold lpO
    rw [cif_f (fun z => z.1 rfl)]
    have : ∀ (k : Nat) (i : Int) (s : PtS), zfo (lpI mm x x) k i s = s := by
      intro k
      induction k with
      | zero => intro i s; rfl
      | succ k ih =>
        intro i s
        show zfo (lpI mm x x) k (i + 1) (lpI mm x x i s) = s
        have e : lpI mm x x i s = s := by unfold lpI; rw [cif_f (fun z => z.1 rfl)]
        rw [e]
        exact ih _ _
    exact this _ _ _
  · have ha := h2 l q1 (by omega)
    rw [if_pos q2] at ha
    unfold lpO stO
    rw [st_lp ha (by omega)]
    refine zfo_cong _ _ _ (fun b s y1 y2 => ?_)
    have hb := h2 b y1 (by omega)
    rw [if_pos (by omega)] at hb
    exact me_lp ha hb (by omega) (by omega)
  · have ha := h2 l (by omega) (by omega)
    rw [if_neg (by omega)] at ha
    unfold lpO stO
    rw [st_lp ha (by omega)]
    have hsk := zfo_skip (f := lpI mm x (l + 1)) (g := fun b s => meP (rowM mr o) 0 s l b) (n := l + 1) (x := x) (s := cif (rowM mr o (0 + 4) l = 1) (enR s (rowM mr o (0 + 7) l) 0 0 1) s) ⟨h0.1, by omega⟩ (fun s => by unfold lpI; rw [cif_f (fun z => z.2.1 rfl)]) (fun b s y1 y2 => ?_) (fun b s y1 y2 => ?_)
    · rw [show l + 1 - 1 - 0 = l - 0 by omega] at hsk
      exact hsk
    · have hb := h2 b y1 (by omega)
      rw [if_pos y2] at hb
      exact me_lp ha hb (by omega) (by omega)
    · have hb := h2 b (by omega) (by omega)
      rw [if_neg (by omega)] at hb
      exact me_lp ha hb (by omega) (by omega)
