/-! neighbours, counts, points linked -/
theorem zsm_iv (a b : Int) : ∀ (k : Nat) (i : Int), zsm (fun j => zb (a ≤ j ∧ j ≤ b)) k i = if (if a ≤ i then i else a) ≤ (if b < i + k - 1 then b else i + k - 1) then (if b < i + k - 1 then b else i + k - 1) - (if a ≤ i then i else a) + 1 else 0
  | 0, i => by
    show (0 : Int) = _
    (repeat' split) <;> omega
  | k + 1, i => by
    have ih := zsm_iv a b k (i + 1)
    show zb (a ≤ i ∧ i ≤ b) + zsm (fun j => zb (a ≤ j ∧ j ≤ b)) k (i + 1) = _
    rw [ih]
    by_cases h : a ≤ i ∧ i ≤ b
    · rw [zb_t h]
      (repeat' split) <;> omega
    · rw [zb_f h]
      (repeat' split) <;> omega
theorem zsm_in {a b n : Int} (h0 : 0 ≤ a) (h1 : a ≤ b) (h2 : b < n) : zsm (fun j => zb (a ≤ j ∧ j ≤ b)) (n - 0).toNat 0 = b - a + 1 := by
  rw [zsm_iv]
  (repeat' split) <;> omega
theorem zsm_one1 {a n : Int} (hn : 0 ≤ n) : zsm (fun j => zb (a ≤ j ∧ j ≤ a)) (n - 0).toNat 0 = zb (0 ≤ a ∧ a < n) := by
  rw [zsm_iv]
  by_cases h : 0 ≤ a ∧ a < n
  · rw [zb_t h]
    (repeat' split) <;> omega
  · rw [zb_f h]
    (repeat' split) <;> omega
section zLX2
variable {mem mm : zMem} {st b j c d k r x i p w : Int}
theorem nb_own {s : Int} (hj : 0 ≤ j ∧ j ≤ 2 * mm 91 s) : nbI mm s j s = zb (0 < j) + zb (j < 2 * mm 91 s) := by
  have e : nbI mm s j s = zsm (fun i => zb (j - 1 ≤ i ∧ i ≤ j - 1) + zb (j + 1 ≤ i ∧ i ≤ j + 1)) (2 * mm 91 s + 1 - 0).toNat 0 := by
    unfold nbI
    refine zsm_cong _ _ (fun i _ _ => ?_)
    show zb (nbM mm s j s i) = _
    by_cases h1 : i = j - 1
    · rw [zb_t (show nbM mm s j s i from Or.inl ⟨rfl, by omega⟩), zb_t (show j - 1 ≤ i ∧ i ≤ j - 1 by omega), zb_f (show ¬ (j + 1 ≤ i ∧ i ≤ j + 1) by omega)]; rfl
    · by_cases h2 : i = j + 1
      · rw [zb_t (show nbM mm s j s i from Or.inl ⟨rfl, by omega⟩), zb_f (show ¬ (j - 1 ≤ i ∧ i ≤ j - 1) by omega), zb_t (show j + 1 ≤ i ∧ i ≤ j + 1 by omega)]; rfl
      · rw [zb_f (show ¬ nbM mm s j s i from fun z => by
          rcases z with z | z
          · have := z.2; omega
          · have := z.1; omega), zb_f (show ¬ (j - 1 ≤ i ∧ i ≤ j - 1) by omega), zb_f (show ¬ (j + 1 ≤ i ∧ i ≤ j + 1) by omega)]; rfl
  rw [e, zsm_ad, zsm_one1 (by omega), zsm_one1 (by omega), zb_iff (show (0 ≤ j - 1 ∧ j - 1 < 2 * mm 91 s + 1) ↔ 0 < j by omega), zb_iff (show (0 ≤ j + 1 ∧ j + 1 < 2 * mm 91 s + 1) ↔ j < 2 * mm 91 s by omega)]
theorem nb_oth (h : LX mem mm) (hs : 0 ≤ st ∧ st < mem 31 2) (hb : b = st - 1 ∨ b = st + 1) (hb2 : 0 ≤ b ∧ b < mem 31 2) (hj : 0 ≤ j ∧ j ≤ 2 * mm 91 st) : nbI mm st j b = nb2 mem 31 st j b := by
  unfold nb2
  rw [cif_t hb2]
  by_cases he : st % 2 = 0
  · rw [if_pos he]
    have z := LX_lh (i := 0) h hs he hb hb2 hj
    rw [← zsm_in z.2.1 z.2.2.1 (show hiB mem 31 st j b < 2 * mm 91 b + 1 by omega)]
    unfold nbI
    refine zsm_cong _ _ (fun i _ _ => ?_)
    show zb _ = zb _
    apply zb_iff
    rw [← (LX_lh (i := i) h hs he hb hb2 hj).1]
    unfold nbM
    rw [if_pos he]
    constructor
    · rintro (z | z)
      · omega
      · exact z.2
    · intro z
      exact Or.inr ⟨by omega, z⟩
  · rw [if_neg he]
    unfold nbI cmA
    rw [(LX_t h hb2).1]
    refine zsm_cong _ _ (fun i q1 q2 => ?_)
    show zb _ = zb _
    apply zb_iff
    rw [← (LX_lh (i := j) (j := i) (st := b) (b := st) h hb2 (by omega) (by omega) hs ⟨q1, by omega⟩).1]
    unfold nbM
    rw [if_neg he]
    constructor
    · rintro (z | z)
      · omega
      · exact z.2
    · intro z
      exact Or.inr ⟨by omega, z⟩
theorem LX_nb (h : LX mem mm) (hs : 0 ≤ st ∧ st < mem 31 2) (hj : 0 ≤ j ∧ j ≤ 2 * mm 91 st) : nbA mem 31 st j = nbS mm st j := by
  have hn := LX_n h
  have e0 := nb_own (mm := mm) (s := st) hj
  have out : ∀ b, ¬ (0 ≤ b ∧ b < mem 31 2) → nb2 mem 31 st j b = 0 := fun b q => by unfold nb2; rw [cif_f q]
  unfold nbA nbS nbH
  rw [(LX_t h hs).1, ← e0, ← hn.1]
  by_cases h1 : 0 < st
  · rw [if_pos h1]
    have e1 := nb_oth h hs (b := st - 1) (Or.inl rfl) (by omega) hj
    by_cases h2 : st + 2 ≤ mem 31 2
    · have e2 := nb_oth h hs (b := st + 1) (Or.inr rfl) (by omega) hj
      rw [if_pos h2, show (st + 2 - (st - 1)).toNat = 3 by omega, ← e1, ← e2]
      show _ = nbI mm st j (st - 1) + (nbI mm st j (st - 1 + 1) + (nbI mm st j (st - 1 + 1 + 1) + 0))
      rw [show st - 1 + 1 = st by omega]
      omega
    · rw [if_neg h2, show (mem 31 2 - (st - 1)).toNat = 2 by omega, ← e1, out (st + 1) (by omega)]
      show _ = nbI mm st j (st - 1) + (nbI mm st j (st - 1 + 1) + 0)
      rw [show st - 1 + 1 = st by omega]
      omega
  · rw [if_neg h1]
    have e3 : st = 0 := by omega
    by_cases h2 : st + 2 ≤ mem 31 2
    · have e2 := nb_oth h hs (b := st + 1) (Or.inr rfl) (by omega) hj
      rw [if_pos h2, show (st + 2 - 0).toNat = 2 by omega, out (st - 1) (by omega), ← e2]
      show _ = nbI mm st j 0 + (nbI mm st j (0 + 1) + 0)
      rw [e3]
      omega
    · rw [if_neg h2, show (mem 31 2 - 0).toNat = 1 by omega, out (st - 1) (by omega), out (st + 1) (by omega)]
      show _ = nbI mm st j 0 + 0
      rw [e3]
      omega
theorem LX_sc (h : LX mem mm) : scS mem 31 = seA mm := by
  have hn := LX_n h
  unfold scS seA
  rw [hn.1]
  refine zsm_cong _ _ (fun s q1 q2 => ?_)
  show mem (31 + 2) s / 2 = mm 91 s
  rw [(LX_t h ⟨q1, by omega⟩).1]
  omega
theorem zsm_2 {f : Int → Int} : ∀ (k : Nat) (i : Int), zsm (fun n => 2 * f n + 1) k i = k + 2 * zsm f k i
  | 0, _ => by unfold zsm; rfl
  | k + 1, i => by
    have := zsm_2 (f := f) k (i + 1)
    unfold zsm
    omega
theorem LX_cl (h : LX mem mm) : mem 31 2 + 2 * scS mem 31 = clA mm := by
  have hn := LX_n h
  rw [LX_sc h]
  unfold clA seA
  have e := zsm_2 (f := fun n => mm 91 n) (mm 80 15 - 0).toNat 0
  have e2 : zsm (fun n => 2 * mm 91 n + 1) (mm 80 15 - 0).toNat 0 = ((mm 80 15 - 0).toNat : Int) + 2 * zsm (fun n => mm 91 n) (mm 80 15 - 0).toNat 0 := e
  omega
/-- what is told of points -/
theorem LX_pt (h : LX mem mm) (hp : 0 ≤ p ∧ p < (ptR mem 3).1) : mP mm p = (ptR mem 3).2 p ∧ mP mm (20 + (2 * p + 1)) = mP mm p := by
  obtain ⟨hA, hS, hL, _⟩ := h.2.2.1.2.1
  have e := hL.1.2.2 p hp.1 hp.2
  refine ⟨e, ?_⟩
  rw [(hL.2.2 (2 * p + 1) (by omega) (by omega)).1 (by omega), e, show (2 * p + 1) / 2 = p by omega]
theorem LX_mt (h : LX mem mm) (hp : 0 ≤ p ∧ p < (ptR mem 3).1) (hc : 0 ≤ c ∧ c < mem 3 1) (hd : 0 ≤ d ∧ d < mem 3 1) : pmQ mem 31 p c d ↔ mtM mm p c d := by
  have hn := LX_n h
  have uc := LX_u h hc
  have ud := LX_u h hd
  unfold pmQ mtM mtP
  rw [uc.1, ud.1, uc.2.1, ud.2.1]
  constructor
  · rintro ⟨fc, fd, z1, z2⟩
    rw [show 8 * p + 4 + c = 4 * (2 * p + 1) + c by omega, show 8 * p + 4 + d = 4 * (2 * p + 1) + d by omega, (LX_p h (by omega) hc fc).1, (LX_p h (by omega) hd fd).1] at z1
    rw [show 8 * p + c = 4 * (2 * p) + c by omega, show 8 * p + d = 4 * (2 * p) + d by omega, (LX_p h (by omega) hc fc).1, (LX_p h (by omega) hd fd).1] at z2
    have e1 := LX_w h (st := 2 * p + 1) (by omega) hc hd fc fd
    have e2 := LX_w h (st := 2 * p) (by omega) hc hd fc fd
    refine ⟨fc, fd, fun q => ?_, ?_⟩
    · unfold dfM at e2
      rw [q.1, q.2.1, q.2.2, Int.sub_self, Int.sub_self, Int.sub_self, sg_con (LX_pk h (by omega)), show cmpI 0 0 = 0 by decide] at e2
      unfold cmpI at e2
      (repeat' split at e2) <;> omega
    · unfold dfM at e1 ⊢
      rw [(LX_pt h hp).2] at e1
      rw [← e1]
      unfold cmpI
      rw [if_neg (by omega), if_pos (by omega)]
  · rintro ⟨fc, fd, z1, z2⟩
    have e1 := LX_w h (st := 2 * p + 1) (by omega) hc hd fc fd
    have e3 : dfM mm c d (20 + (2 * p + 1)) = dfM mm c d p := by unfold dfM; rw [(LX_pt h hp).2]
    rw [e3, z2] at e1
    rw [show 8 * p + 4 + c = 4 * (2 * p + 1) + c by omega, show 8 * p + 4 + d = 4 * (2 * p + 1) + d by omega, show 8 * p + c = 4 * (2 * p) + c by omega, show 8 * p + d = 4 * (2 * p) + d by omega, (LX_p h (by omega) hc fc).1, (LX_p h (by omega) hd fd).1, (LX_p h (by omega) hc fc).1, (LX_p h (by omega) hd fd).1]
    refine ⟨fc, fd, ?_, fun q => z1 (LX_same h (st := 2 * p) (b := 2 * p) (by omega) (by omega) (by omega) hc hd fc fd (by omega)).2⟩
    unfold cmpI at e1
    (repeat' split at e1) <;> omega
theorem LX_pm (h : LX mem mm) (hp : 0 ≤ p ∧ p < (ptR mem 3).1) : pmA mem 31 p = meS mm p := by
  have hn := LX_n h
  unfold pmA meS
  rw [hn.2.2.1]
  refine zsm_cong _ _ (fun c q1 q2 => ?_)
  unfold pmR meR
  refine zsm_cong _ _ (fun d y1 y2 => ?_)
  show zb _ = zb _
  exact zb_iff (LX_mt h hp ⟨q1, by omega⟩ ⟨y1, by omega⟩)
theorem LX_up (h : LX mem mm) (hp : 0 ≤ p ∧ p < (ptR mem 3).1) : upA mem 31 p = stS mm p := by
  have hn := LX_n h
  unfold upA stS
  rw [hn.2.2.1]
  refine zsm_cong _ _ (fun c q1 q2 => ?_)
  show zb _ = zb _
  apply zb_iff
  have hc : 0 ≤ c ∧ c < mem 3 1 := ⟨q1, by omega⟩
  have uc := LX_u h hc
  rw [uc.2.1, uc.2.2.2]
  by_cases fc : mem (3 + 2 + c) 0 = 3
  · obtain ⟨z, z1, z2, z3⟩ := LX_f h (st := 0) (by omega) hc fc
    rw [show 4 * 0 + c = c by omega] at z2
    obtain ⟨hA, hS, hL, _⟩ := h.2.2.1.2.1
    have kp := pk_ok (hA.2 p hp.1 hp.2).1
    have e := ord_tr kp (pk_ok (hA.2 z z1.1 z1.2).1) (pk_fr (p := mem (3 + 2 + c) 2) (q := 1) (by decide)) (ord_ix hA hS hp z1) z3 (Or.inl rfl)
    rw [(LX_pt h hp).1, cmF_eq kp (by decide), e, z2]
    constructor
    · rintro ⟨_, y⟩
      refine ⟨fc, ?_⟩
      unfold cmpI
      rw [if_neg (by omega), if_pos (by omega)]
    · rintro ⟨_, y⟩
      refine ⟨fun q => (uc.1.mp q) fc, ?_⟩
      unfold cmpI at y
      (repeat' split at y) <;> omega
  · constructor
    · rintro ⟨y, _⟩
      exact absurd (uc.1.mpr fc) y
    · rintro ⟨y, _⟩
      exact absurd y fc
theorem LX_tp (h : LX mem mm) (hp : 0 ≤ p ∧ p < (ptR mem 3).1) : tpM mm p w = pnX mem (ptR mem 3).2 p w := by
  unfold tpM pnX
  rw [(LX_pt h hp).1, LX_pm h hp, LX_up h hp]
end zLX2
