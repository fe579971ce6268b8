/-! cells linked -/
/-- the class has built what the reference has laid -/
def LX (mem mm : zMem) : Prop := StD mem 3 mem 31 ∧ rwK mem 3 ∧ LK mem 3 mm (-1) (fun l => l) ∧ KP mem 3 mm (-1) (fun l => l)
section zLX
variable {mem mm : zMem} {st b j c d k r x i : Int}
theorem LX_n (h : LX mem mm) : mem 31 2 = mm 80 15 ∧ mem 31 1 = mm 80 14 ∧ mem 31 3 = mm 80 2 ∧ mem 3 1 = mm 80 2 ∧ mem 31 2 = 2 * (ptR mem 3).1 + 1 ∧ mem 31 1 = (ptR mem 3).1 ∧ (0 ≤ (ptR mem 3).1 ∧ (ptR mem 3).1 ≤ 12) := by
  obtain ⟨⟨_, h1, h2, h3, _⟩, h5, ⟨_, hM, _⟩, hP⟩ := h
  have e := hM.2.2.1
  have e1 := hM.1.1
  have e2 : mem 3 1 = mm 80 2 := by
    rcases hP with z | z
    · exact z.2.1
    · have := z.1.1; omega
  refine ⟨by rw [h2, e.2.1], by rw [h1.2.1, e.1.1], by rw [h3, e2], e2, h2, h1.2.1, e1, e.1.2.1⟩
theorem LX_t (h : LX mem mm) (hs : 0 ≤ st ∧ st < mem 31 2) : mem (31 + 2) st = 2 * mm 91 st ∧ mm 91 st = nsM (mem 3 1) (rowM mem 3 4) (wR mem 3 st) := by
  have hn := LX_n h
  obtain ⟨hD, h5, hK, hP⟩ := h
  have hs' : 0 ≤ st ∧ st < 2 * (ptR mem 3).1 + 1 := by omega
  have e := (hK.2.1.2.2.2 st hs'.1 hs'.2).1
  rw [sc_ns hK hP hs'] at e
  refine ⟨?_, e⟩
  rw [e, (hD.2.2.2.2.2 st hs'.1 hs'.2).1]
  rfl
theorem LX_p (h : LX mem mm) (hs : 0 ≤ st ∧ st < mem 31 2) (hc : 0 ≤ c ∧ c < mem 3 1) (fc : mem (3 + 2 + c) 0 ≠ 3) : mem (31 + 3) (4 * st + c) = 2 * mm 90 (4 * st + c) + 1 ∧ mm 90 (4 * st + c) = bwM (mem 3 1) (rowM mem 3 4) (wR mem 3 st) c := by
  have hn := LX_n h
  obtain ⟨hD, h5, hK, hP⟩ := h
  have hs' : 0 ≤ st ∧ st < 2 * (ptR mem 3).1 + 1 := by omega
  have e := (hK.2.1.2.2.2 st hs'.1 hs'.2).2 c hc.1 (by omega)
  rw [rk_bw (κ := fun l => l) hK hP hs' hc fc] at e
  refine ⟨?_, e⟩
  rw [e, (hD.2.2.2.2.2 st hs'.1 hs'.2).2 c hc.1 hc.2]
  unfold plR
  rw [if_neg fc]
theorem LX_u (h : LX mem mm) (hc : 0 ≤ c ∧ c < mem 3 1) : (mem (31 + 4) c = 0 ↔ mem (3 + 2 + c) 0 ≠ 3) ∧ mm 82 c = mem (3 + 2 + c) 0 ∧ mm 83 c = mem (3 + 2 + c) 1 ∧ mm 84 c = mem (3 + 2 + c) 2 := by
  obtain ⟨hD, h5, hK, hP⟩ := h
  have q := (hK.2.2.2.1 c hc.1 hc.2).1
  refine ⟨?_, q⟩
  rw [hD.2.2.2.2.1 c hc.1 hc.2]
  exact zb_0
theorem sg_up {p : Pt} (hp : pk p) (x : Int) : sgP p 0 1 (-x) = ordP p (fr x 1) := by
  have z := sg_lin (p := p) (R := fr x 1) (B := 1) (C := -x) hp ⟨pk_fr (by decide), fun N _ => by rw [xq_fr]; show 1 * (x * N) = -(-x * 1) * N; grind⟩
  rw [z, show cmpI 1 0 = 1 by decide, Int.one_mul]
theorem up_all {s : PtS} (hA : okA s) (hh : has s (fr x 1)) : ∃ z, (0 ≤ z ∧ z < s.1) ∧ stA s.2 s.1 x = 2 * z + 1 ∧ ordP (s.2 z) (fr x 1) = 0 := by
  obtain ⟨j, j0, j1, hj⟩ := hh
  have h1 := zff_r (p := fun p => sgP (s.2 p) 0 1 (-x) = 0) (s.1 - 0).toNat 0
  have h2 := zff_min (p := fun p => sgP (s.2 p) 0 1 (-x) = 0) (s.1 - 0).toNat 0 j
  have h3 := zff_hit (p := fun p => sgP (s.2 p) 0 1 (-x) = 0) (s.1 - 0).toNat 0
  unfold stA
  generalize zff (fun p => sgP (s.2 p) 0 1 (-x) = 0) (s.1 - 0).toNat 0 = z at *
  have hz : z ≤ j := by
    apply Int.not_lt.mp
    intro q
    exact h2 j0 q (by show sgP (s.2 j) 0 1 (-x) = 0; rw [sg_up (pk_ok (hA.2 j j0 j1).1)]; exact hj)
  refine ⟨z, by omega, cif_t (by omega), ?_⟩
  have := h3 (by omega)
  rw [← sg_up (pk_ok (hA.2 z (by omega) (by omega)).1)]
  exact this
theorem LX_f (h : LX mem mm) (hs : 0 ≤ st ∧ st < mem 31 2) (hc : 0 ≤ c ∧ c < mem 3 1) (fc : mem (3 + 2 + c) 0 = 3) : ∃ z, (0 ≤ z ∧ z < (ptR mem 3).1) ∧ mem (31 + 3) (4 * st + c) = 2 * z + 1 ∧ ordP ((ptR mem 3).2 z) (fr (mem (3 + 2 + c) 2) 1) = 0 := by
  have hn := LX_n h
  obtain ⟨hD, h5, hK, hP⟩ := h
  have hf := (lpA_h (out := -1) hK.1).2.2.2
  rw [hK.2.2.1] at hf
  have q := (hK.2.2.2.1 c hc.1 hc.2).1
  have hh := hf c hc.1 (by omega) (by omega) (by rw [q.1]; exact fc)
  rw [q.2.2] at hh
  obtain ⟨z, z1, z2, z3⟩ := up_all hK.2.1.1 hh
  refine ⟨z, z1, ?_, z3⟩
  rw [(hD.2.2.2.2.2 st hs.1 (by omega)).2 c hc.1 hc.2]
  unfold plR
  rw [if_pos fc, z2]
/-- the order of a sample and a point -/
theorem LX_o {z : Int} (h : LX mem mm) (hs : 0 ≤ st ∧ st < mem 31 2) (hz : 0 ≤ z ∧ z < (ptR mem 3).1) : ordP (mP mm (20 + st)) ((ptR mem 3).2 z) = cmpI st (2 * z + 1) := by
  have hn := LX_n h
  obtain ⟨hD, h5, ⟨hK, ⟨hA, hS, hL, _⟩, _⟩, hP⟩ := h
  obtain ⟨s1, s2⟩ := hL.2.2 st hs.1 (by omega)
  have kz := pk_ok (hA.2 z hz.1 hz.2).1
  by_cases e : st % 2 = 1
  · rw [s1 e, ord_ix hA hS (by omega) hz]
    unfold cmpI
    (repeat' split) <;> omega
  · have sm := s2 (by omega)
    by_cases q : z < st / 2
    · rw [ord_sy kz (SM_k sm), sm.2.2.2.1 z hz.1 q hz.2]
      unfold cmpI
      (repeat' split) <;> omega
    · rw [sm.2.2.2.2 z hz.1 (by omega) hz.2]
      unfold cmpI
      (repeat' split) <;> omega
theorem LX_pk (h : LX mem mm) (hs : 0 ≤ st ∧ st < mem 31 2) : pk (mP mm (20 + st)) := LK_pk h.2.2.1 (by have := LX_n h; omega)
/-- how a curve lies for a cell -/
theorem LX_s (h : LX mem mm) (hs : 0 ≤ st ∧ st < mem 31 2) (hc : 0 ≤ c ∧ c < mem 3 1) : sdS mem 31 st j c = lsM mm st j c := by
  have hu := LX_u h hc
  unfold sdS lsM
  rw [hu.2.1, hu.2.2.2]
  by_cases fc : mem (3 + 2 + c) 0 = 3
  · rw [if_neg (fun z => (hu.1.mp z) fc), if_pos fc]
    obtain ⟨z, z1, z2, z3⟩ := LX_f h hs hc fc
    have hA := h.2.2.1.2.1.1
    have kP := LX_pk h hs
    have e := ord_tr kP (pk_ok (hA.2 z z1.1 z1.2).1) (pk_fr (p := mem (3 + 2 + c) 2) (q := 1) (by decide)) (LX_o h hs z1) z3 (Or.inl rfl)
    rw [cmF_eq kP (by decide), e, z2]
    unfold cmpI
    (repeat' split) <;> omega
  · rw [if_pos (hu.1.mpr fc), if_neg fc, (LX_p h hs hc fc).1]
theorem LX_TP (h : LX mem mm) (hs : 0 ≤ st ∧ st < mem 31 2) : TP (mem 3 1) (rowM mem 3 4) (wR mem 3 st) := LK_TP h.2.2.1 (by have := LX_n h; omega)
theorem LX_w (h : LX mem mm) (hs : 0 ≤ st ∧ st < mem 31 2) (hc : 0 ≤ c ∧ c < mem 3 1) (hd : 0 ≤ d ∧ d < mem 3 1) (fc : mem (3 + 2 + c) 0 ≠ 3) (fd : mem (3 + 2 + d) 0 ≠ 3) : cmpI (mm 90 (4 * st + c)) (mm 90 (4 * st + d)) = dfM mm c d (20 + st) := by
  rw [(LX_p h hs hc fc).2, (LX_p h hs hd fd).2, bw_iff (LX_TP h hs) ⟨hc, u_0.mpr fc⟩ ⟨hd, u_0.mpr fd⟩]
  exact w_df (κ := fun l => l) h.2.2.1 (by have := LX_n h; omega) hc hd fc fd
/-- alike over a stretch is alike everywhere -/
theorem LX_same (h : LX mem mm) (hs : 0 ≤ st ∧ st < mem 31 2) (he : st % 2 = 0) (hb : 0 ≤ b ∧ b < mem 31 2) (hc : 0 ≤ c ∧ c < mem 3 1) (hd : 0 ≤ d ∧ d < mem 3 1) (fc : mem (3 + 2 + c) 0 ≠ 3) (fd : mem (3 + 2 + d) 0 ≠ 3) (h0 : mm 90 (4 * st + c) = mm 90 (4 * st + d)) : mm 90 (4 * b + c) = mm 90 (4 * b + d) ∧ smP mm c d := by
  have hn := LX_n h
  have e := LX_w h hs hc hd fc fd
  rw [h0] at e
  have e0 : dfM mm c d (20 + st) = 0 := by rw [← e]; unfold cmpI; rw [if_neg (by omega), if_pos rfl]
  have hR := LK_hR (κ := fun l => l) h.2.2.1 hc hd fc fd
  obtain ⟨hA, hS, hL, _⟩ := h.2.2.1.2.1
  have sm := (hL.2.2 st hs.1 (by omega)).2 he
  obtain ⟨z1, z2, z3⟩ := zero_all hA sm hR e0
  have z1' : sqK (mm 82 c) - sqK (mm 82 d) = 0 := z1
  have z2' : slK (mm 82 c) (mm 83 c) - slK (mm 82 d) (mm 83 d) = 0 := z2
  have z3' : mm 84 c - mm 84 d = 0 := z3
  refine ⟨?_, by unfold smP; omega⟩
  have e2 := LX_w h hb hc hd fc fd
  unfold dfM at e2
  rw [z1', z2', z3', sg_con (LX_pk h hb), show cmpI 0 0 = 0 by decide] at e2
  unfold cmpI at e2
  (repeat' split at e2) <;> omega
theorem LX_near (h : LX mem mm) (hs : 0 ≤ st ∧ st < mem 31 2) (he : st % 2 = 0) (hb : b = st - 1 ∨ b = st + 1) (hb2 : 0 ≤ b ∧ b < mem 31 2) (hc : 0 ≤ c ∧ c < mem 3 1) (hd : 0 ≤ d ∧ d < mem 3 1) (fc : mem (3 + 2 + c) 0 ≠ 3) (fd : mem (3 + 2 + d) 0 ≠ 3) (h0 : mm 90 (4 * st + c) < mm 90 (4 * st + d)) : mm 90 (4 * b + c) ≤ mm 90 (4 * b + d) := by
  have hn := LX_n h
  have e := LX_w h hs hc hd fc fd
  have e0 : dfM mm c d (20 + st) = -1 := by rw [← e]; unfold cmpI; rw [if_pos h0]
  have e2 := LX_w h hb2 hc hd fc fd
  have hR := LK_hR (κ := fun l => l) h.2.2.1 hc hd fc fd
  obtain ⟨hA, hS, hL, _⟩ := h.2.2.1.2.1
  have sm := (hL.2.2 st hs.1 (by omega)).2 he
  have sb := (hL.2.2 b hb2.1 (by omega)).1 (by omega)
  apply Int.not_lt.mp
  intro q
  have e3 : dfM mm c d (20 + b) = 1 := by rw [← e2]; unfold cmpI; rw [if_neg (by omega), if_neg (by omega)]
  unfold dfM at e3 e0
  rw [sb] at e3
  have := adj_all hA hS sm (by omega) (show b / 2 = st / 2 - 1 ∨ b / 2 = st / 2 by omega) (by omega) hR (by show sgP _ (sqK (mm 82 c) - sqK (mm 82 d)) (slK (mm 82 c) (mm 83 c) - slK (mm 82 d) (mm 83 d)) (mm 84 c - mm 84 d) ≠ 0; omega)
  have t : sgP ((ptR mem 3).2 (b / 2)) (sqK (mm 82 c) - sqK (mm 82 d)) (slK (mm 82 c) (mm 83 c) - slK (mm 82 d) (mm 83 d)) (mm 84 c - mm 84 d) = sgP (mP mm (20 + st)) (sqK (mm 82 c) - sqK (mm 82 d)) (slK (mm 82 c) (mm 83 c) - slK (mm 82 d) (mm 83 d)) (mm 84 c - mm 84 d) := this
  omega
/-- a section has a curve -/
theorem LX_sec (h : LX mem mm) (hs : 0 ≤ st ∧ st < mem 31 2) (hr : 0 ≤ r ∧ r < mm 91 st) : ∃ c, (0 ≤ c ∧ c < mem 3 1) ∧ mem (3 + 2 + c) 0 ≠ 3 ∧ mm 90 (4 * st + c) = r := by
  obtain ⟨c, c1, c2, c3⟩ := bw_sur (LX_TP h hs) (x := r) (by rw [← (LX_t h hs).2]; exact hr)
  have fc := u_0.mp c1.2
  exact ⟨c, c1.1, fc, by rw [(LX_p h hs c1.1 fc).2]; exact c3⟩
theorem LX_rk (h : LX mem mm) (hs : 0 ≤ st ∧ st < mem 31 2) (hc : 0 ≤ c ∧ c < mem 3 1) (fc : mem (3 + 2 + c) 0 ≠ 3) : 0 ≤ mm 90 (4 * st + c) ∧ mm 90 (4 * st + c) < mm 91 st := by
  rw [(LX_p h hs hc fc).2, (LX_t h hs).2]
  exact bw_ns (LX_TP h hs) ⟨hc, u_0.mpr fc⟩
theorem zfo_last {p : Int → Prop} {f : Int → Int → Int} {v : Int} (hf : ∀ k t, (p k → f k t = v) ∧ (¬ p k → f k t = t)) : ∀ (k : Nat) (i t : Int), (∃ j, i ≤ j ∧ j < i + k ∧ p j) ∨ t = v → zfo f k i t = v
  | 0, i, t, h => by
    rcases h with ⟨j, a, b, _⟩ | h
    · omega
    · exact h
  | k + 1, i, t, h => by
    show zfo f k (i + 1) (f i t) = v
    rcases Classical.em (p i) with c | c
    · exact zfo_last hf k (i + 1) _ (Or.inr ((hf i t).1 c))
    · rw [(hf i t).2 c]
      refine zfo_last hf k (i + 1) t ?_
      rcases h with ⟨j, a, b, q⟩ | h
      · left
        by_cases e : j = i
        · rw [e] at q; exact absurd q c
        · exact ⟨j, by omega, by omega, q⟩
      · exact Or.inr h
/-- to which place a section comes: both say the same -/
theorem LX_b (h : LX mem mm) (hs : 0 ≤ st ∧ st < mem 31 2) (he : st % 2 = 0) (hb : 0 ≤ b ∧ b < mem 31 2) (hr : 0 ≤ r ∧ r < mm 91 st) : ∃ c, (0 ≤ c ∧ c < mem 3 1) ∧ mem (3 + 2 + c) 0 ≠ 3 ∧ mm 90 (4 * st + c) = r ∧ ctM mm st r b = mm 90 (4 * b + c) ∧ scB mem 31 st (2 * r + 1) b = 2 * ctM mm st r b + 1 := by
  have hn := LX_n h
  obtain ⟨c, c1, fc, c3⟩ := LX_sec h hs hr
  have ect : ctM mm st r b = mm 90 (4 * b + c) := by
    unfold ctM
    have key : ∀ k, (0 ≤ k ∧ k < mem 3 1) → (mm 82 k ≠ 3 ∧ mm 90 (4 * st + k) = r) → mm 90 (4 * b + k) = mm 90 (4 * b + c) := fun k k1 k2 => by
      have fk : mem (3 + 2 + k) 0 ≠ 3 := by rw [← (LX_u h k1).2.1]; exact k2.1
      exact (LX_same h hs he hb k1 c1 fk fc (by omega)).1
    have z := zfo_last (p := fun k => (0 ≤ k ∧ k < mem 3 1) ∧ (mm 82 k ≠ 3 ∧ mm 90 (4 * st + k) = r)) (f := fun k t => if (0 ≤ k ∧ k < mem 3 1) ∧ (mm 82 k ≠ 3 ∧ mm 90 (4 * st + k) = r) then mm 90 (4 * b + k) else t) (v := mm 90 (4 * b + c)) (fun k t => ⟨fun q => by show (if _ then _ else _) = _; rw [if_pos q]; exact key k q.1 q.2, fun q => by show (if _ then _ else _) = _; rw [if_neg q]⟩) (mm 80 2 - 0).toNat 0 0 (Or.inl ⟨c, c1.1, by omega, c1, by rw [(LX_u h c1).2.1]; exact fc, c3⟩)
    rw [← z]
    refine zfo_cong _ _ _ (fun k t q1 q2 => ?_)
    by_cases q : mm 82 k ≠ 3 ∧ mm 90 (4 * st + k) = r
    · rw [if_pos q, if_pos ⟨⟨q1, by omega⟩, q⟩]
    · rw [if_neg q, if_neg (fun z => q z.2)]
  refine ⟨c, c1, fc, c3, ect, ?_⟩
  have h1 := zff_r (p := fun c => mem (31 + 4) c = 0 ∧ mem (31 + 3) (4 * st + c) = 2 * r + 1) (mem 31 3 - 0).toNat 0
  have h2 := zff_min (p := fun c => mem (31 + 4) c = 0 ∧ mem (31 + 3) (4 * st + c) = 2 * r + 1) (mem 31 3 - 0).toNat 0 c c1.1
  have h3 := zff_hit (p := fun c => mem (31 + 4) c = 0 ∧ mem (31 + 3) (4 * st + c) = 2 * r + 1) (mem 31 3 - 0).toNat 0
  unfold scB
  generalize zff (fun c => mem (31 + 4) c = 0 ∧ mem (31 + 3) (4 * st + c) = 2 * r + 1) (mem 31 3 - 0).toNat 0 = z at *
  have hz : z ≤ c := by
    apply Int.not_lt.mp
    intro q
    exact h2 q ⟨(LX_u h c1).1.mpr fc, by rw [(LX_p h hs c1 fc).1, c3]⟩
  obtain ⟨y1, y2⟩ := h3 (by omega)
  have hzn : 0 ≤ z ∧ z < mem 3 1 := by omega
  have fz := (LX_u h hzn).1.mp y1
  rw [(LX_p h hs hzn fz).1] at y2
  rw [cif_t (by omega), (LX_p h hb hzn fz).1, ect, (LX_same h hs he hb hzn c1 fz fc (by omega)).1]
/-- the lowest and the highest cell beside -/
theorem LX_lh (h : LX mem mm) (hs : 0 ≤ st ∧ st < mem 31 2) (he : st % 2 = 0) (hb : b = st - 1 ∨ b = st + 1) (hb2 : 0 ≤ b ∧ b < mem 31 2) (hj : 0 ≤ j ∧ j ≤ 2 * mm 91 st) : (bsM mm st j b i ↔ (lwB mem 31 st j b ≤ i ∧ i ≤ hiB mem 31 st j b)) ∧ 0 ≤ lwB mem 31 st j b ∧ lwB mem 31 st j b ≤ hiB mem 31 st j b ∧ hiB mem 31 st j b ≤ 2 * mm 91 b := by
  have ht := (LX_t h hs).1
  have htb := (LX_t h hb2).1
  unfold bsM lwB hiB
  rw [ht, htb]
  by_cases o1 : j % 2 = 1
  · obtain ⟨c, c1, fc, c3, c4, c5⟩ := LX_b h hs he hb2 (r := j / 2) (by omega)
    have rk := LX_rk h hb2 c1 fc
    rw [show 2 * (j / 2) + 1 = j by omega] at c5
    rw [if_pos o1, if_neg (show ¬ j = 0 by omega), if_pos o1, if_neg (show ¬ j = 2 * mm 91 st by omega), if_pos o1, c5, c4]
    omega
  · rw [if_neg o1, if_neg o1, if_neg o1]
    by_cases j0 : j = 0
    · rw [if_pos j0, if_pos j0]
      by_cases jt : j = 2 * mm 91 st
      · rw [if_pos jt, if_pos (show j / 2 = mm 91 st by omega)]
        have := LX_t h hb2
        have n0 : 0 ≤ nsM (mem 3 1) (rowM mem 3 4) (wR mem 3 b) := by
          have := zsm_r (f := fun o => zb (isM (rowM mem 3 4) (wR mem 3 b) o)) (fun j => by have := zb_01 (isM (rowM mem 3 4) (wR mem 3 b) j); omega) (mem 3 1 - 0).toNat 0
          unfold nsM
          omega
        omega
      · obtain ⟨c, c1, fc, c3, c4, c5⟩ := LX_b h hs he hb2 (r := j / 2) (by omega)
        have rk := LX_rk h hb2 c1 fc
        rw [show 2 * (j / 2) + 1 = j + 1 by omega] at c5
        rw [if_neg jt, if_neg (show ¬ j / 2 = mm 91 st by omega), c5, c4]
        omega
    · rw [if_neg j0, if_neg j0]
      obtain ⟨c, c1, fc, c3, c4, c5⟩ := LX_b h hs he hb2 (r := j / 2 - 1) (by omega)
      have rk := LX_rk h hb2 c1 fc
      rw [show 2 * (j / 2 - 1) + 1 = j - 1 by omega] at c5
      rw [c5, c4]
      by_cases jt : j = 2 * mm 91 st
      · rw [if_pos jt, if_pos (show j / 2 = mm 91 st by omega)]
        omega
      · obtain ⟨d, d1, fd, d3, d4, d5⟩ := LX_b h hs he hb2 (r := j / 2) (by omega)
        have rd := LX_rk h hb2 d1 fd
        rw [show 2 * (j / 2) + 1 = j + 1 by omega] at d5
        have near := LX_near h hs he hb hb2 c1 d1 fc fd (by omega)
        rw [if_neg jt, if_neg (show ¬ j / 2 = mm 91 st by omega), d5, d4]
        omega
theorem LX_hb (h : LX mem mm) : hbX mem 31 := by
  intro s j b q1 q2 q3 q4 q5 q6 q7 q8
  rw [(LX_t h ⟨q1, q2⟩).1] at q5
  rw [(LX_t h ⟨q7, q8⟩).1]
  exact (LX_lh (i := 0) h ⟨q1, q2⟩ q3 q6 ⟨q7, q8⟩ ⟨q4, q5⟩).2.2.2
end zLX
