/-! ranks -/
section zTP
variable {n : Int} {u : Int → Int} {w : Int → Int → Int} {c d e : Int}
def inU (n : Int) (u : Int → Int) (c : Int) : Prop := (0 ≤ c ∧ c < n) ∧ u c = 0
/-- signs as those of an order -/
def TP (n : Int) (u : Int → Int) (w : Int → Int → Int) : Prop := (∀ c d, inU n u c → inU n u d → w d c = -w c d ∧ (w c d = -1 ∨ w c d = 0 ∨ w c d = 1)) ∧ ∀ c d e, inU n u c → inU n u d → inU n u e → (w d e = 0 ∨ w c d = w d e) → w c e = w c d
theorem TP_rf (h : TP n u w) (hc : inU n u c) : w c c = 0 := by have := (h.1 c c hc hc).1; omega
theorem TP_rep (h : TP n u w) (hc : inU n u c) : ∃ x, inU n u x ∧ x ≤ c ∧ w c x = 0 ∧ isM u w x := by
  obtain ⟨k, hk⟩ : ∃ k : Nat, c.toNat = k := ⟨_, rfl⟩
  induction k using Nat.strongRecOn generalizing c with
  | _ k ih =>
    rcases Classical.em (isM u w c) with q | q
    · exact ⟨c, hc, by omega, TP_rf h hc, q⟩
    · have : ∃ y, (0 ≤ y ∧ y < c) ∧ u y = 0 ∧ w c y = 0 := by
        apply Classical.byContradiction
        intro z
        exact q ⟨hc.2, fun o q1 q2 q3 q4 => z ⟨o, ⟨q1, q2⟩, q3, q4⟩⟩
      obtain ⟨y, y1, y2, y3⟩ := this
      have hy : inU n u y := ⟨⟨y1.1, by have := hc.1; omega⟩, y2⟩
      obtain ⟨x, x1, x2, x3, x4⟩ := ih y.toNat (by omega) hy rfl
      exact ⟨x, x1, by omega, by rw [h.2 c y x hc hy x1 (Or.inl x3)]; exact y3, x4⟩
theorem zsm_le {f g : Int → Int} : ∀ (k : Nat) (i : Int), (∀ j, i ≤ j → j < i + k → f j ≤ g j) → zsm f k i ≤ zsm g k i
  | 0, _, _ => Int.le_refl _
  | k + 1, i, h => by
    have h1 := h i (by omega) (by omega)
    have h2 := zsm_le k (i + 1) (fun j q1 q2 => h j (by omega) (by omega))
    unfold zsm
    omega
theorem zsm_lt {f g : Int → Int} {M : Int} : ∀ (k : Nat) (i : Int), (∀ j, i ≤ j → j < i + k → f j ≤ g j) → i ≤ M → M < i + k → f M < g M → zsm f k i < zsm g k i
  | 0, _, _, q1, q2, _ => by omega
  | k + 1, i, h, q1, q2, q3 => by
    have h1 := h i (by omega) (by omega)
    unfold zsm
    by_cases e : M = i
    · have h2 := zsm_le k (i + 1) (fun j y1 y2 => h j (by omega) (by omega))
      rw [e] at q3
      omega
    · have h2 := zsm_lt k (i + 1) (fun j y1 y2 => h j (by omega) (by omega)) (by omega) (by omega) q3
      omega
theorem zb_le {p q : Prop} (h : p → q) : zb p ≤ zb q := by
  rcases Classical.em p with c | c
  · rw [zb_t c, zb_t (h c)]; exact Int.le_refl _
  · have := zb_01 q
    rw [zb_f c]; omega
theorem isM_in (hc : 0 ≤ c ∧ c < n) (h : isM u w c) : inU n u c := ⟨hc, h.1⟩
theorem bw_eq (h : TP n u w) (hc : inU n u c) (hd : inU n u d) (h0 : w c d = 0) : bwM n u w c = bwM n u w d := by
  unfold bwM
  refine zsm_cong _ _ (fun j q1 q2 => ?_)
  show zb _ = zb _
  apply zb_iff
  have hn := hc.1
  constructor
  · rintro ⟨z1, z2⟩
    have hj := isM_in (n := n) ⟨q1, by omega⟩ z2
    have e1 := (h.1 c d hc hd).1
    have e2 := h.2 c j d hc hj hd
    have e3 := h.2 d c j hd hc hj
    have e4 := (h.1 c j hc hj).2
    have e5 := (h.1 d j hd hj)
    have e6 := h.2 c d j hc hd hj
    refine ⟨?_, z2⟩
    apply Int.not_le.mp
    intro q
    rcases e5.2 with y | y | y
    · have e7 := h.2 j d c hj hd hc (Or.inl (by omega))
      have e8 := (h.1 c j hc hj).1
      have e9 := (h.1 d j hd hj).1
      omega
    · have := e6 (Or.inl y)
      omega
    · omega
  · rintro ⟨z1, z2⟩
    have hj := isM_in (n := n) ⟨q1, by omega⟩ z2
    have e1 := (h.1 c d hc hd).1
    have e5 := (h.1 c j hc hj)
    refine ⟨?_, z2⟩
    have e7 := h.2 j d c hj hd hc (Or.inl (by omega))
    have e8 := (h.1 c j hc hj).1
    have e9 := (h.1 d j hd hj).1
    omega
theorem bw_lt (h : TP n u w) (hc : inU n u c) (hd : inU n u d) (h0 : 0 < w c d) : bwM n u w d < bwM n u w c := by
  obtain ⟨x, x1, x2, x3, x4⟩ := TP_rep h hd
  have hn := hd.1
  have w1 : w c d = 1 := by have := (h.1 c d hc hd).2; omega
  unfold bwM
  refine zsm_lt (M := x) _ _ (fun j q1 q2 => zb_le (fun z => ?_)) x1.1.1 (by have := x1.1; omega) ?_
  · have hj := isM_in (n := n) ⟨q1, by omega⟩ z.2
    have e1 := (h.1 d j hd hj).2
    have e2 := h.2 c d j hc hd hj (Or.inr (by omega))
    exact ⟨by omega, z.2⟩
  · have e2 := h.2 c d x hc hd x1 (Or.inl x3)
    rw [zb_f (fun z => by have := z.1; omega), zb_t ⟨by omega, x4⟩]
    decide
theorem bw_ns (h : TP n u w) (hc : inU n u c) : 0 ≤ bwM n u w c ∧ bwM n u w c < nsM n u w := by
  obtain ⟨x, x1, x2, x3, x4⟩ := TP_rep h hc
  have hn := hc.1
  refine ⟨?_, ?_⟩
  · have := zsm_r (f := fun o => zb (0 < w c o ∧ isM u w o)) (fun j => by have := zb_01 (0 < w c j ∧ isM u w j); omega) (n - 0).toNat 0
    unfold bwM
    omega
  · unfold bwM nsM
    refine zsm_lt (M := x) _ _ (fun j q1 q2 => zb_le (fun z => z.2)) x1.1.1 (by have := x1.1; omega) ?_
    rw [zb_f (fun z => by have := z.1; omega), zb_t x4]
    decide
theorem bw_iff (h : TP n u w) (hc : inU n u c) (hd : inU n u d) : cmpI (bwM n u w c) (bwM n u w d) = w c d := by
  have e := h.1 c d hc hd
  unfold cmpI
  rcases e.2 with z | z | z
  · have := bw_lt h hd hc (by omega)
    rw [if_pos this, z]
  · have := bw_eq h hc hd z
    rw [if_neg (by omega), if_pos this, z]
  · have := bw_lt h hc hd (by omega)
    rw [if_neg (by omega), if_neg (by omega), z]
theorem zsm_u {p : Int → Prop} : ∀ (k : Nat) (i : Int), (∀ a b, i ≤ a → a < i + k → i ≤ b → b < i + k → p a → p b → a = b) → zsm (fun j => zb (p j)) k i ≤ 1
  | 0, _, _ => by unfold zsm; decide
  | k + 1, i, h => by
    unfold zsm
    rcases Classical.em (p i) with c | c
    · have e : zsm (fun j => zb (p j)) k (i + 1) = 0 := by
        rw [zsm_cong (g := fun _ => 0) k (i + 1) (fun j q1 q2 => zb_f (fun z => by have := h i j (by omega) (by omega) (by omega) (by omega) c z; omega))]
        exact zsm_0 (fun _ => rfl) _ _
      show zb (p i) + _ ≤ 1
      rw [zb_t c, e]
      decide
    · have := zsm_u k (i + 1) (fun a b y1 y2 y3 y4 => h a b (by omega) (by omega) (by omega) (by omega))
      show zb (p i) + _ ≤ 1
      rw [zb_f c]
      omega
theorem zsm_ad {f g : Int → Int} : ∀ (k : Nat) (i : Int), zsm (fun j => f j + g j) k i = zsm f k i + zsm g k i
  | 0, _ => by unfold zsm; rfl
  | k + 1, i => by
    have := zsm_ad (f := f) (g := g) k (i + 1)
    unfold zsm
    omega
/-- how many representatives have a rank below t -/
noncomputable def cnB (n : Int) (u : Int → Int) (w : Int → Int → Int) (t : Int) : Int := zsm (fun o => zb (isM u w o ∧ bwM n u w o < t)) (n - 0).toNat 0
theorem cnB_s (h : TP n u w) (t : Int) : cnB n u w (t + 1) = cnB n u w t + zsm (fun o => zb (isM u w o ∧ bwM n u w o = t)) (n - 0).toNat 0 := by
  unfold cnB
  rw [← zsm_ad]
  refine zsm_cong _ _ (fun j _ _ => ?_)
  show zb _ = zb _ + zb _
  by_cases q1 : isM u w j ∧ bwM n u w j < t
  · rw [zb_t q1, zb_t ⟨q1.1, by omega⟩, zb_f (fun z => by have := z.2; omega)]; rfl
  · by_cases q2 : isM u w j ∧ bwM n u w j = t
    · rw [zb_f q1, zb_t q2, zb_t ⟨q2.1, by omega⟩]; rfl
    · rw [zb_f q1, zb_f q2, zb_f (fun z => by
        rcases Int.lt_or_le (bwM n u w j) t with y | y
        · exact q1 ⟨z.1, y⟩
        · exact q2 ⟨z.1, by omega⟩)]; rfl
theorem cnB_1 (h : TP n u w) (t : Int) : zsm (fun o => zb (isM u w o ∧ bwM n u w o = t)) (n - 0).toNat 0 ≤ 1 := by
  refine zsm_u _ _ (fun a b q1 q2 q3 q4 q5 q6 => ?_)
  have ha := isM_in (n := n) ⟨q1, by omega⟩ q5.1
  have hb := isM_in (n := n) ⟨q3, by omega⟩ q6.1
  have e := bw_iff h ha hb
  rw [q5.2, q6.2] at e
  have e2 : w a b = 0 := by rw [← e]; unfold cmpI; rw [if_neg (by omega), if_pos rfl]
  have e3 := (h.1 a b ha hb).1
  apply Classical.byContradiction
  intro hne
  rcases Int.lt_or_le a b with y | y
  · exact q6.1.2 a q1 y ha.2 (by omega)
  · exact q5.1.2 b q3 (by omega) hb.2 e2
theorem cnB_le (h : TP n u w) : ∀ (m : Nat) (t : Int), cnB n u w (t + m) ≤ cnB n u w t + m
  | 0, t => by rw [show t + ((0 : Nat) : Int) = t by omega]; omega
  | m + 1, t => by
    have h1 := cnB_le h m t
    have h2 := cnB_s h (t + m)
    have h3 := cnB_1 h (t + m)
    rw [show t + ((m + 1 : Nat) : Int) = t + m + 1 by omega]
    omega
theorem bw_sur (h : TP n u w) {x : Int} (hx : 0 ≤ x ∧ x < nsM n u w) : ∃ c, inU n u c ∧ isM u w c ∧ bwM n u w c = x := by
  apply Classical.byContradiction
  intro hno
  have e0 : zsm (fun o => zb (isM u w o ∧ bwM n u w o = x)) (n - 0).toNat 0 = 0 := by
    rw [zsm_cong (g := fun _ => 0) _ _ (fun j q1 q2 => zb_f (fun z => hno ⟨j, isM_in ⟨q1, by omega⟩ z.1, z.1, z.2⟩))]
    exact zsm_0 (fun _ => rfl) _ _
  have e1 := cnB_s h x
  have z0 : cnB n u w 0 = 0 := by
    unfold cnB
    rw [zsm_cong (g := fun _ => 0) _ _ (fun j q1 q2 => zb_f (fun z => by have := (bw_ns h (isM_in (n := n) ⟨q1, by omega⟩ z.1)).1; have := z.2; omega))]
    exact zsm_0 (fun _ => rfl) _ _
  have e2 := cnB_le h x.toNat 0
  have e3 := cnB_le h (nsM n u w - (x + 1)).toNat (x + 1)
  rw [show 0 + (x.toNat : Int) = x by omega] at e2
  rw [show x + 1 + ((nsM n u w - (x + 1)).toNat : Int) = nsM n u w by omega] at e3
  have e4 : cnB n u w (nsM n u w) = nsM n u w := by
    show cnB n u w (nsM n u w) = zsm (fun o => zb (isM u w o)) (n - 0).toNat 0
    unfold cnB
    refine zsm_cong _ _ (fun j q1 q2 => ?_)
    show zb _ = zb _
    apply zb_iff
    exact ⟨fun z => z.1, fun z => ⟨z, (bw_ns h (isM_in (n := n) ⟨q1, by omega⟩ z)).2⟩⟩
  omega
end zTP
/-- how the row's numbers and the reference's go together -/
def KP (mr : zMem) (o : Int) (mm : zMem) (out : Int) (κ : Int → Int) : Prop := (out = -1 ∧ mr o 1 = mm 80 2 ∧ ∀ l, κ l = l) ∨ ((0 ≤ out ∧ out < mm 80 2) ∧ mr o 1 = mm 80 2 - 1 ∧ ∀ l, κ l = if l < out then l else l + 1)
section zKP
variable {mr mm : zMem} {o out st c d : Int} {κ : Int → Int}
theorem KP_sum {F : Int → Int} (h : KP mr o mm out κ) (h0 : F out = 0) : zsm F (mm 80 2 - 0).toNat 0 = zsm (fun l => F (κ l)) (mr o 1 - 0).toNat 0 := by
  rcases h with ⟨_, e1, e2⟩ | ⟨e0, e1, e2⟩
  · rw [e1]
    exact zsm_cong _ _ (fun j _ _ => by show F j = F (κ j); rw [e2])
  · rw [e1]
    exact zsm_skip e0 h0 (fun l q1 q2 => by show F l = F (κ l); rw [e2, if_pos q2]) (fun l q1 q2 => by show F (l + 1) = F (κ l); rw [e2, if_neg (by omega)])
theorem KP_inv {j : Int} (h : KP mr o mm out κ) (hj : 0 ≤ j ∧ j < mm 80 2) (hne : j ≠ out) : ∃ l, (0 ≤ l ∧ l < mr o 1) ∧ κ l = j := by
  rcases h with ⟨_, e1, e2⟩ | ⟨e0, e1, e2⟩
  · exact ⟨j, by omega, e2 j⟩
  · by_cases q : j < out
    · exact ⟨j, by omega, by rw [e2, if_pos q]⟩
    · exact ⟨j - 1, by omega, by rw [e2, if_neg (by omega)]; omega⟩
theorem KP_lt (h : KP mr o mm out κ) : κ c < κ d ↔ c < d := by
  rcases h with ⟨_, e1, e2⟩ | ⟨e0, e1, e2⟩
  · rw [e2, e2]
  · rw [e2, e2]
    (repeat' split) <;> omega
theorem u_0 {l : Int} : rowM mr o 4 l = 0 ↔ mr (o + 2 + l) 0 ≠ 3 := by
  have e : rowM mr o 4 l = zb (mr (o + 2 + l) 0 = 3) := rowM_4 mr o l
  rw [e]
  exact zb_0
theorem LK_TP (h : LK mr o mm out κ) (hs : 0 ≤ st ∧ st < 2 * (ptR mr o).1 + 1) : TP (mr o 1) (rowM mr o 4) (wR mr o st) := by
  refine ⟨fun c d hc hd => ?_, fun c d e hc hd he q => ?_⟩
  · have fc := u_0.mp hc.2
    have fd := u_0.mp hd.2
    rw [w_df h hs hc.1 hd.1 fc fd, w_df h hs hd.1 hc.1 fd fc]
    exact ⟨df_sy h hs _ _, sg3_3 _ _ _⟩
  · have fc := u_0.mp hc.2
    have fd := u_0.mp hd.2
    have fe := u_0.mp he.2
    rw [w_df h hs hc.1 hd.1 fc fd, w_df h hs hd.1 he.1 fd fe] at q
    rw [w_df h hs hc.1 hd.1 fc fd, w_df h hs hc.1 he.1 fc fe]
    exact df_tr h hs rfl rfl q
theorem fs_is (h : LK mr o mm out κ) (hP : KP mr o mm out κ) (hs : 0 ≤ st ∧ st < 2 * (ptR mr o).1 + 1) (hc : 0 ≤ c ∧ c < mr o 1) (fc : mr (o + 2 + c) 0 ≠ 3) : fsM mm out st (κ c) ↔ ∀ d, 0 ≤ d → d < c → rowM mr o 4 d = 0 → wR mr o st c d ≠ 0 := by
  constructor
  · intro z d q1 q2 q3
    have fd := u_0.mp q3
    have kd := h.2.2.2.1 d q1 (by omega)
    have := z (κ d) kd.2.1.1 ((KP_lt hP).mpr q2) kd.2.2 (by rw [kd.1.1]; exact fd)
    rw [w_df h hs hc ⟨q1, by omega⟩ fc fd, df_sy h hs]
    omega
  · intro z j q1 q2 q3 q4
    have kc := h.2.2.2.1 c hc.1 hc.2
    obtain ⟨d, hd, e⟩ := KP_inv hP ⟨q1, by omega⟩ q3
    rw [← e] at q2 q4 ⊢
    have kd := h.2.2.2.1 d hd.1 hd.2
    have fd : mr (o + 2 + d) 0 ≠ 3 := by rw [← kd.1.1]; exact q4
    have := z d hd.1 ((KP_lt hP).mp q2) (u_0.mpr fd)
    rw [w_df h hs hc hd fc fd, df_sy h hs] at this
    omega
theorem by_out {j : Int} : byM mm out st out j = 1 := by unfold byM; rw [cif_f (fun z => z.1 rfl)]
theorem by_fl {j k : Int} (hf : mm 82 j = 3) : byM mm out st j k = 1 := by unfold byM; rw [cif_f (fun z => z.2.1 hf)]
theorem by_df (h : LK mr o mm out κ) (hc : 0 ≤ c ∧ c < mr o 1) (hd : 0 ≤ d ∧ d < mr o 1) (fc : mr (o + 2 + c) 0 ≠ 3) (fd : mr (o + 2 + d) 0 ≠ 3) : byM mm out st (κ d) (κ c) = dfM mm (κ d) (κ c) (20 + st) := by
  have kc := h.2.2.2.1 c hc.1 hc.2
  have kd := h.2.2.2.1 d hd.1 hd.2
  unfold byM
  rw [cif_t ⟨kd.2.2, by rw [kd.1.1]; exact fd, kc.2.2, by rw [kc.1.1]; exact fc⟩]
theorem sc_ns (h : LK mr o mm out κ) (hP : KP mr o mm out κ) (hs : 0 ≤ st ∧ st < 2 * (ptR mr o).1 + 1) : scM mm out st = nsM (mr o 1) (rowM mr o 4) (wR mr o st) := by
  unfold scM nsM
  rw [KP_sum (F := fun k => zb (fsG mm out st k (mm 80 2))) hP (zb_f (fun z => z.1.1 rfl))]
  refine zsm_cong _ _ (fun l q1 q2 => ?_)
  show zb _ = zb _
  apply zb_iff
  have hl : 0 ≤ l ∧ l < mr o 1 := ⟨q1, by omega⟩
  have kl := h.2.2.2.1 l hl.1 hl.2
  constructor
  · rintro ⟨⟨z1, z2⟩, z3⟩
    have fl : mr (o + 2 + l) 0 ≠ 3 := by rw [← kl.1.1]; exact z2
    refine ⟨u_0.mpr fl, fun d y1 y2 y3 => ?_⟩
    have fd := u_0.mp y3
    have kd := h.2.2.2.1 d y1 (by omega)
    have := z3 (κ d) kd.2.1.1 kd.2.1.2 ((KP_lt hP).mpr y2)
    rw [by_df h hl ⟨y1, by omega⟩ fl fd] at this
    rw [w_df h hs hl ⟨y1, by omega⟩ fl fd, df_sy h hs]
    omega
  · rintro ⟨z1, z2⟩
    have fl := u_0.mp z1
    refine ⟨⟨kl.2.2, by rw [kl.1.1]; exact fl⟩, fun j y1 y2 y3 => ?_⟩
    by_cases e1 : j = out
    · rw [e1, by_out]; decide
    · by_cases e2 : mm 82 j = 3
      · rw [by_fl e2]; decide
      · obtain ⟨d, hd, e⟩ := KP_inv hP ⟨y1, y2⟩ e1
        rw [← e] at y3 e2 ⊢
        have kd := h.2.2.2.1 d hd.1 hd.2
        have fd : mr (o + 2 + d) 0 ≠ 3 := by rw [← kd.1.1]; exact e2
        have := z2 d hd.1 ((KP_lt hP).mp y3) (u_0.mpr fd)
        rw [w_df h hs hl hd fl fd, df_sy h hs] at this
        rw [by_df h hl hd fl fd]
        omega
theorem rk_bw (h : LK mr o mm out κ) (hP : KP mr o mm out κ) (hs : 0 ≤ st ∧ st < 2 * (ptR mr o).1 + 1) (hc : 0 ≤ c ∧ c < mr o 1) (fc : mr (o + 2 + c) 0 ≠ 3) : rkM mm out st (κ c) = bwM (mr o 1) (rowM mr o 4) (wR mr o st) c := by
  unfold rkM bwM
  rw [KP_sum (F := fun m => zb (byM mm out st m (κ c) < 0 ∧ fsM mm out st m)) hP (zb_f (fun z => by have := z.1; rw [by_out] at this; omega))]
  refine zsm_cong _ _ (fun l q1 q2 => ?_)
  show zb _ = zb _
  apply zb_iff
  have hl : 0 ≤ l ∧ l < mr o 1 := ⟨q1, by omega⟩
  have kl := h.2.2.2.1 l hl.1 hl.2
  by_cases e2 : mm 82 (κ l) = 3
  · constructor
    · intro z
      have := z.1
      rw [by_fl e2] at this
      omega
    · intro z
      have := u_0.mp z.2.1
      rw [kl.1.1] at e2
      exact absurd e2 this
  · have fl : mr (o + 2 + l) 0 ≠ 3 := by rw [← kl.1.1]; exact e2
    rw [by_df h hc hl fc fl, fs_is h hP hs hl fl, w_df h hs hc hl fc fl, df_sy h hs (κ l) (κ c)]
    unfold isM
    constructor
    · intro z
      exact ⟨by omega, u_0.mpr fl, z.2⟩
    · intro z
      exact ⟨by omega, z.2.2⟩
end zKP
