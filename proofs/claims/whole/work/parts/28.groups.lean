/-! groups: a forest of nearer cells, and what its roots are -/
def GR (f : Int → Int) (D : Int → Prop) (ρ : Int → Int) : Prop := ∀ x, D x → (0 ≤ x ∧ x < 225) ∧ ((f x = -1 ∧ ρ x = -1) ∨ (0 ≤ f x ∧ f x ≤ x ∧ D (f x) ∧ ρ (f x) = ρ x ∧ 0 ≤ ρ x ∧ ρ x ≤ x ∧ D (ρ x) ∧ f (ρ x) = ρ x ∧ ρ (ρ x) = ρ x ∧ (f x = x → ρ x = x)))
def uf (f : Int → Int) (k v : Int) : Int → Int := fun x => if x = k then v else f x
theorem uf_s {f : Int → Int} {k v : Int} : uf f k v k = v := if_pos rfl
theorem uf_n {f : Int → Int} {k v x : Int} (h : x ≠ k) : uf f k v x = f x := if_neg h
theorem zup_f (mem : zMem) (a k v : Int) : zup mem a k v a = uf (mem a) k v := by
  funext x
  unfold zup uf
  by_cases h : x = k
  · rw [if_pos ⟨rfl, h⟩, if_pos h]
  · rw [if_neg (fun q => h q.2), if_neg h]
theorem zup_a {mem : zMem} {a k v a' : Int} (h : a' ≠ a) : zup mem a k v a' = mem a' := by
  funext x
  exact zup_c h
theorem GR_path {f : Int → Int} {D : Int → Prop} {ρ : Int → Int} {p : Int} (h : GR f D ρ) (hp : D p) (hm : ρ p ≠ -1) : GR (uf f p (ρ p)) D ρ := by
  intro x hx
  obtain ⟨hr, hx2⟩ := h x hx
  refine ⟨hr, ?_⟩
  rcases h p hp with ⟨_, hp2⟩
  rcases hp2 with ⟨_, b⟩ | ⟨p1, p2, p3, p4, p5, p6, p7, p8, p9, p10⟩
  · exact absurd b hm
  by_cases hxp : x = p
  · subst hxp
    right
    rw [uf_s]
    refine ⟨p5, p6, p7, p9, p5, p6, p7, ?_, p9, fun e => e⟩
    by_cases e : ρ x = x
    · rw [e, uf_s]
    · rw [uf_n e]; exact p8
  · rw [uf_n hxp]
    rcases hx2 with a | ⟨q1, q2, q3, q4, q5, q6, q7, q8, q9, q10⟩
    · exact Or.inl a
    · right
      refine ⟨q1, q2, q3, q4, q5, q6, q7, ?_, q9, q10⟩
      by_cases e : ρ x = p
      · rw [e, uf_s, ← e, q9]
      · rw [uf_n e]; exact q8
def jnR (ρ : Int → Int) (a b : Int) : Int → Int := if ρ b = -1 then ρ else fun x => if ρ x = maxI (ρ a) (ρ b) then minI (ρ a) (ρ b) else ρ x
theorem jnR_n {ρ : Int → Int} {a b : Int} (h : ρ b = -1) : jnR ρ a b = ρ := if_pos h
theorem jnR_v {ρ : Int → Int} {a b : Int} (h : ρ b ≠ -1) (x : Int) : jnR ρ a b x = if ρ x = maxI (ρ a) (ρ b) then minI (ρ a) (ρ b) else ρ x := by
  unfold jnR
  rw [if_neg h]
theorem mm_lt {a b : Int} (h : a ≠ b) : minI a b < maxI a b ∧ ((minI a b = a ∧ maxI a b = b) ∨ (minI a b = b ∧ maxI a b = a)) := by
  unfold minI maxI
  split <;> split <;> omega
theorem mm_eq {a : Int} : minI a a = a ∧ maxI a a = a := by
  unfold minI maxI
  simp
theorem jnR_same {ρ : Int → Int} {a b : Int} (h : ρ a = ρ b) : jnR ρ a b = ρ := by
  by_cases hb : ρ b = -1
  · exact jnR_n hb
  · funext x
    rw [jnR_v hb, h, (mm_eq).1, (mm_eq).2]
    split
    · next e => exact e.symm
    · rfl
theorem GR_join {f : Int → Int} {D : Int → Prop} {ρ : Int → Int} {a b : Int} (h : GR f D ρ) (ha : D a) (hb : D b) (hma : ρ a ≠ -1) (hmb : ρ b ≠ -1) (hne : ρ a ≠ ρ b) : GR (uf f (maxI (ρ a) (ρ b)) (minI (ρ a) (ρ b))) D (jnR ρ a b) := by
  obtain ⟨hlt, hmm⟩ := mm_lt hne
  have key : ∀ y, D y → ρ y ≠ -1 → 0 ≤ ρ y ∧ D (ρ y) ∧ f (ρ y) = ρ y ∧ ρ (ρ y) = ρ y := by
    intro y hy hm
    rcases (h y hy).2 with ⟨_, q⟩ | ⟨_, _, _, _, q5, _, q7, q8, q9, _⟩
    · exact absurd q hm
    · exact ⟨q5, q7, q8, q9⟩
  have kM : 0 ≤ maxI (ρ a) (ρ b) ∧ D (maxI (ρ a) (ρ b)) ∧ f (maxI (ρ a) (ρ b)) = maxI (ρ a) (ρ b) ∧ ρ (maxI (ρ a) (ρ b)) = maxI (ρ a) (ρ b) := by
    rcases hmm with ⟨_, e⟩ | ⟨_, e⟩ <;> rw [e]
    · exact key b hb hmb
    · exact key a ha hma
  have kN : 0 ≤ minI (ρ a) (ρ b) ∧ D (minI (ρ a) (ρ b)) ∧ f (minI (ρ a) (ρ b)) = minI (ρ a) (ρ b) ∧ ρ (minI (ρ a) (ρ b)) = minI (ρ a) (ρ b) := by
    rcases hmm with ⟨e, _⟩ | ⟨e, _⟩ <;> rw [e]
    · exact key a ha hma
    · exact key b hb hmb
  generalize maxI (ρ a) (ρ b) = M at *
  have hv : ∀ x, jnR ρ a b x = if ρ x = M then minI (ρ a) (ρ b) else ρ x := fun x => by
    rw [jnR_v hmb]
    rcases hmm with ⟨_, e⟩ | ⟨_, e⟩
    · rw [e]; congr 2; unfold maxI at *; split <;> omega
    · rw [e]; congr 2; unfold maxI at *; split <;> omega
  generalize minI (ρ a) (ρ b) = N at *
  obtain ⟨m1, m2, m3, m4⟩ := kM
  obtain ⟨n1, n2, n3, n4⟩ := kN
  have hNM : N ≠ M := by omega
  have vN : jnR ρ a b N = N := by rw [hv, n4, if_neg hNM]
  intro x hx
  obtain ⟨hr, hx2⟩ := h x hx
  refine ⟨hr, ?_⟩
  rcases hx2 with ⟨x1, x2⟩ | ⟨q1, q2, q3, q4, q5, q6, q7, q8, q9, q10⟩
  · left
    have hxM : x ≠ M := fun e => by rw [e, m4] at x2; omega
    exact ⟨by rw [uf_n hxM]; exact x1, by rw [hv, x2, if_neg (by omega)]⟩
  · right
    by_cases hxM : x = M
    · subst hxM
      have vx : jnR ρ a b x = N := by rw [hv, m4, if_pos rfl]
      rw [uf_s, vx, vN, uf_n hNM]
      exact ⟨n1, by omega, n2, rfl, n1, by omega, n2, n3, rfl, fun e => e⟩
    · rw [uf_n hxM]
      have vf : jnR ρ a b (f x) = jnR ρ a b x := by rw [hv, hv, q4]
      refine ⟨q1, q2, q3, vf, ?_⟩
      by_cases hM : ρ x = M
      · have vx : jnR ρ a b x = N := by rw [hv, if_pos hM]
        rw [vx, vN, uf_n hNM]
        refine ⟨n1, by omega, n2, n3, rfl, fun e => ?_⟩
        exact absurd ((q10 e).symm.trans hM) hxM
      · have vx : jnR ρ a b x = ρ x := by rw [hv, if_neg hM]
        rw [vx, hv, q9, if_neg hM, uf_n hM]
        exact ⟨q5, q6, q7, q8, rfl, q10⟩
noncomputable def cntR (D : Int → Prop) (ρ : Int → Int) : Int := zsm (fun x => zb (D x ∧ ρ x = x)) 225 0
theorem zsm_one {f g : Int → Int} {M : Int} : ∀ (k : Nat) (i : Int), (∀ j, j ≠ M → f j = g j) → zsm f k i = zsm g k i + (if i ≤ M ∧ M < i + k then f M - g M else 0)
  | 0, i, _ => by rw [if_neg (by omega)]; rfl
  | k + 1, i, h => by
    have ih := zsm_one (M := M) k (i + 1) h
    unfold zsm
    rw [ih]
    by_cases e : i = M
    · subst e
      rw [if_neg (by omega), if_pos (by omega)]
      omega
    · rw [h i e]
      by_cases c : i + 1 ≤ M ∧ M < i + 1 + k
      · rw [if_pos c, if_pos (by omega)]; omega
      · rw [if_neg c, if_neg (by omega)]; omega
theorem cnt_join {f : Int → Int} {D : Int → Prop} {ρ : Int → Int} {a b : Int} (h : GR f D ρ) (ha : D a) (hb : D b) (hma : ρ a ≠ -1) (hmb : ρ b ≠ -1) (hne : ρ a ≠ ρ b) : cntR D (jnR ρ a b) = cntR D ρ - 1 := by
  obtain ⟨hlt, hmm⟩ := mm_lt hne
  have key : ∀ y, D y → ρ y ≠ -1 → D (ρ y) ∧ ρ (ρ y) = ρ y := by
    intro y hy hm
    rcases (h y hy).2 with ⟨_, q⟩ | ⟨_, _, _, _, q5, _, q7, q8, q9, _⟩
    · exact absurd q hm
    · exact ⟨q7, q9⟩
  have kM : D (maxI (ρ a) (ρ b)) ∧ ρ (maxI (ρ a) (ρ b)) = maxI (ρ a) (ρ b) := by
    rcases hmm with ⟨_, e⟩ | ⟨_, e⟩ <;> rw [e]
    · exact key b hb hmb
    · exact key a ha hma
  have kN : ρ (minI (ρ a) (ρ b)) = minI (ρ a) (ρ b) := by
    rcases hmm with ⟨e, _⟩ | ⟨e, _⟩ <;> rw [e]
    · exact (key a ha hma).2
    · exact (key b hb hmb).2
  have hv := jnR_v (a := a) hmb
  have hr := (h _ kM.1).1
  unfold cntR
  rw [zsm_one (f := fun x => zb (D x ∧ jnR ρ a b x = x)) (g := fun x => zb (D x ∧ ρ x = x)) (M := maxI (ρ a) (ρ b)) 225 0 ?_, if_pos (by omega)]
  · show _ + (zb _ - zb _) = _
    rw [zb_t (show D (maxI (ρ a) (ρ b)) ∧ ρ (maxI (ρ a) (ρ b)) = maxI (ρ a) (ρ b) from kM), zb_f]
    · omega
    · intro z
      have := z.2
      rw [hv, kM.2, if_pos rfl] at this
      omega
  · intro j hj
    show zb _ = zb _
    apply zb_iff
    rw [hv]
    by_cases e : ρ j = maxI (ρ a) (ρ b)
    · rw [if_pos e]
      refine ⟨fun z => ?_, fun z => absurd (e.symm.trans z.2).symm hj⟩
      have e2 := z.2
      rw [← e2, kN] at e
      omega
    · rw [if_neg e]
/-- the groups' cells hold the forest with the roots ρ, and how many there are -/
def GX (D : Int → Prop) (m : zMem) (ρ : Int → Int) : Prop := GR (m 76) D ρ ∧ m 75 1 = cntR D ρ
def frG (mem m : zMem) : Prop := ∀ a, a ≠ 75 → a ≠ 76 → m a = mem a
theorem s_Gr_placeOf (mem : zMem) (s j : Int) : zF m_Gr_placeOf [(0, s), (0, j)] mem (fun r m => r = some (0, 9 * s + j) ∧ m = mem) := by
  refine zF_of (by decide) (Nat.le_of_ble_eq_true rfl) ?_
  show zS zT m_Gr_placeOf (0, 0) 0 [some (0, s), some (0, j)] [] mem _
  refine zV_bipush d_Gr_placeOf_0 ?_
  refine zV_iload_n d_Gr_placeOf_2 rfl ?_
  refine zV_imul d_Gr_placeOf_3 ?_
  refine zV_iload_n d_Gr_placeOf_4 rfl ?_
  refine zV_iadd d_Gr_placeOf_5 ?_
  exact zS_iret d_Gr_placeOf_6 rfl ⟨Nat.zero_le _, Nat.zero_le _⟩ ⟨rfl, rfl⟩
theorem s_Gr_standsFor_l (mem : zMem) (p : Int) (D : Int → Prop) (ρ : Int → Int) (hG : GR (mem 76) D ρ) (hp : D p) (hm : ρ p ≠ -1) : ∀ (st : Int) (at_ : Int), (0 ≤ st) → (D at_) → (ρ at_ = ρ p) → (at_ + st ≤ p) → zS zT m_Gr_standsFor (0, 0) 4 [some (2, 75), some (0, p), some (0, at_), some (0, st)] [] mem (zQs (fun r m => r = some (0, ρ p) ∧ m = zup mem 76 p (ρ p))) := by
  intro st at_
  obtain ⟨k9, hk9⟩ : ∃ k : Nat, (at_).toNat = k := ⟨_, rfl⟩
  induction k9 using Nat.strongRecOn generalizing st at_ with
  | _ k9 ih =>
    intro i0 i1 i2 i3
    obtain ⟨r1, r2⟩ := hG at_ i1
    have r3 := (hG p hp).1
    have r4 : ρ at_ ≠ -1 := by rw [i2]; exact hm
    rcases r2 with ⟨_, b9⟩ | ⟨q1, q2, q3, q4, q5, q6, q7, q8, q9, q10⟩
    · exact absurd b9 r4
    refine zV_iload_n d_Gr_standsFor_4 rfl ?_
    refine zV_sipush d_Gr_standsFor_5 ?_
    refine zV_icmp_ge d_Gr_standsFor_8 (by omega) (by omega) (fun c8 => absurd c8 (by omega)) (fun c8 => ?_)
    refine zV_aload_n d_Gr_standsFor_11 rfl ?_
    refine zS_getr (r := 76) d_Gr_standsFor_12 f_Gr_9 rfl rfl rfl ?_
    refine zV_iload_n d_Gr_standsFor_15 rfl ?_
    refine zS_iald d_Gr_standsFor_16 rfl rfl ⟨by omega, by omega⟩ ?_
    refine zV_iload_n d_Gr_standsFor_17 rfl ?_
    refine zV_icmp_eq d_Gr_standsFor_18 (by omega) (by omega) (fun c18 => ?_) (fun c18 => ?_)
    · refine zV_aload_n d_Gr_standsFor_34 rfl ?_
      refine zS_getr (r := 76) d_Gr_standsFor_35 f_Gr_9 rfl rfl rfl ?_
      refine zV_iload_n d_Gr_standsFor_38 rfl ?_
      refine zV_iload_n d_Gr_standsFor_39 rfl ?_
      refine zS_iast d_Gr_standsFor_40 rfl rfl ⟨by omega, by omega⟩ ?_
      refine zV_iload_n d_Gr_standsFor_41 rfl ?_
      exact zS_iret d_Gr_standsFor_42 rfl ⟨Nat.zero_le _, Nat.zero_le _⟩ (by have e9 := q10 c18; rw [i2] at e9; exact ⟨by rw [e9], by rw [e9]⟩)
    · refine zV_aload_n d_Gr_standsFor_21 rfl ?_
      refine zS_getr (r := 76) d_Gr_standsFor_22 f_Gr_9 rfl rfl rfl ?_
      refine zV_iload_n d_Gr_standsFor_25 rfl ?_
      refine zS_iald d_Gr_standsFor_26 rfl rfl ⟨by omega, by omega⟩ ?_
      refine zV_istore_n (L' := [some (2, 75), some (0, p), some (0, (mem 76 at_)), some (0, st)]) d_Gr_standsFor_27 (by decide) rfl ?_
      refine zV_iinc (L' := [some (2, 75), some (0, p), some (0, (mem 76 at_)), some (0, (st + 1))]) d_Gr_standsFor_28 (by decide) rfl rfl ?_
      refine zV_goto d_Gr_standsFor_31 ?_
      exact ih _ (by omega) _ _ rfl (by omega) q3 (q4.trans i2) (by omega)
theorem s_Gr_standsFor (mem : zMem) (p : Int) (D : Int → Prop) (ρ : Int → Int) (hG : GR (mem 76) D ρ) (hp : D p) (hm : ρ p ≠ -1) : zF m_Gr_standsFor [(2, 75), (0, p)] mem (fun r m => r = some (0, ρ p) ∧ m = zup mem 76 p (ρ p)) := by
  refine zF_of (by decide) (Nat.le_of_ble_eq_true rfl) ?_
  show zS zT m_Gr_standsFor (0, 0) 0 [some (2, 75), some (0, p), none, none] [] mem _
  refine zV_iload_n d_Gr_standsFor_0 rfl ?_
  refine zV_istore_n (L' := [some (2, 75), some (0, p), some (0, p), none]) d_Gr_standsFor_1 (by decide) rfl ?_
  refine zV_iconst d_Gr_standsFor_2 ?_
  refine zV_istore_n (L' := [some (2, 75), some (0, p), some (0, p), some (0, 0)]) d_Gr_standsFor_3 (by decide) rfl ?_
  exact s_Gr_standsFor_l mem p D ρ hG hp hm 0 p (by omega) hp rfl (by omega)
theorem join_e1 {mem : zMem} {a b : Int} {D : Int → Prop} {ρ : Int → Int} (hX : GX D mem ρ) (hb : D b) (hmb : ρ b ≠ -1) (he : ρ a = ρ b) (hG : GR (zup (zup mem 76 a (ρ a)) 76 b (ρ b) 76) D ρ) : (none : Option zAV) = none ∧ GX D (zup (zup mem 76 a (ρ a)) 76 b (ρ b)) (jnR ρ a b) ∧ frG mem (zup (zup mem 76 a (ρ a)) 76 b (ρ b)) := by
  rw [jnR_same he]
  refine ⟨rfl, ⟨hG, ?_⟩, fun x _ h2 => by rw [zup_a h2, zup_a h2]⟩
  rw [zup_c (by omega), zup_c (by omega)]
  exact hX.2
theorem join_e2 {mem : zMem} {a b : Int} {D : Int → Prop} {ρ : Int → Int} (hX : GX D mem ρ) (ha : D a) (hb : D b) (hma : ρ a ≠ -1) (hmb : ρ b ≠ -1) (hne : ¬ ρ a = ρ b) (hG : GR (zup (zup mem 76 a (ρ a)) 76 b (ρ b) 76) D ρ) : (none : Option zAV) = none ∧ GX D (zup (zup (zup (zup mem 76 a (ρ a)) 76 b (ρ b)) 76 (maxI (ρ a) (ρ b)) (minI (ρ a) (ρ b))) 75 1 (mem 75 1 - 1)) (jnR ρ a b) ∧ frG mem (zup (zup (zup (zup mem 76 a (ρ a)) 76 b (ρ b)) 76 (maxI (ρ a) (ρ b)) (minI (ρ a) (ρ b))) 75 1 (mem 75 1 - 1)) := by
  refine ⟨rfl, ⟨?_, ?_⟩, fun x h1 h2 => by rw [zup_a h1, zup_a h2, zup_a h2, zup_a h2]⟩
  · rw [zup_a (show (76 : Int) ≠ 75 by decide), zup_f]
    exact GR_join hG ha hb hma hmb hne
  · rw [zup_s, cnt_join hX.1 ha hb hma hmb hne, hX.2]
theorem s_Gr_join (mem : zMem) (a b : Int) (D : Int → Prop) (ρ : Int → Int) (hX : GX D mem ρ) (ha : D a) (hb : D b) (hma : ρ a ≠ -1) : zF m_Gr_join [(2, 75), (0, a), (0, b)] mem (fun r m => r = none ∧ GX D m (jnR ρ a b) ∧ frG mem m) := by
  have ra := hX.1 a ha
  have rb := hX.1 b hb
  have hG2 : GR (zup mem 76 a (ρ a) 76) D ρ := by rw [zup_f]; exact GR_path hX.1 ha hma
  have hmb : mem 76 b ≠ -1 → ρ b ≠ -1 := fun q => by rcases rb.2 with z | z <;> omega
  have hG3 : ρ b ≠ -1 → GR (zup (zup mem 76 a (ρ a)) 76 b (ρ b) 76) D ρ := fun q => by rw [zup_f]; exact GR_path hG2 hb q
  refine zF_of (by decide) (Nat.le_of_ble_eq_true rfl) ?_
  show zS zT m_Gr_join (0, 0) 0 [some (2, 75), some (0, a), some (0, b), none, none] [] mem _
  refine zV_aload_n d_Gr_join_0 rfl ?_
  refine zS_getr (r := 76) d_Gr_join_1 f_Gr_9 rfl rfl rfl ?_
  refine zV_iload_n d_Gr_join_4 rfl ?_
  refine zS_iald d_Gr_join_5 rfl rfl ⟨by omega, by omega⟩ ?_
  refine zV_iconst d_Gr_join_6 ?_
  refine zV_icmp_ne d_Gr_join_7 (by omega) (by omega) (fun c7 => ?_) (fun c7 => ?_)
  · refine zV_aload_n d_Gr_join_11 rfl ?_
    refine zV_iload_n d_Gr_join_12 rfl ?_
    refine zS_invvE (mt' := m_Gr_standsFor) (avs := [(0, a)]) (st := []) d_Gr_join_13 l_Gr_60 k_Gr_standsFor rfl rfl rfl rfl rfl (s_Gr_standsFor mem a D ρ hX.1 ha hma) ?_
    show zS zT m_Gr_join (0, 0) 16 [some (2, 75), some (0, a), some (0, b), none, none] [(0, (ρ a))] (zup mem 76 a (ρ a)) _
    refine zV_istore_n (L' := [some (2, 75), some (0, a), some (0, b), some (0, (ρ a)), none]) d_Gr_join_16 (by decide) rfl ?_
    refine zV_aload_n d_Gr_join_17 rfl ?_
    refine zV_iload_n d_Gr_join_18 rfl ?_
    refine zS_invvE (mt' := m_Gr_standsFor) (avs := [(0, b)]) (st := []) d_Gr_join_19 l_Gr_60 k_Gr_standsFor rfl rfl rfl rfl rfl (s_Gr_standsFor (zup mem 76 a (ρ a)) b D ρ hG2 hb (hmb c7)) ?_
    show zS zT m_Gr_join (0, 0) 22 [some (2, 75), some (0, a), some (0, b), some (0, (ρ a)), none] [(0, (ρ b))] (zup (zup mem 76 a (ρ a)) 76 b (ρ b)) _
    refine zV_istore (L' := [some (2, 75), some (0, a), some (0, b), some (0, (ρ a)), some (0, (ρ b))]) d_Gr_join_22 (by decide) rfl ?_
    refine zV_iload_n d_Gr_join_24 rfl ?_
    refine zV_iload d_Gr_join_25 rfl ?_
    refine zV_icmp_eq d_Gr_join_27 (by omega) (by omega) (fun c27 => ?_) (fun c27 => ?_)
    · exact zS_vret d_Gr_join_57 rfl ⟨Nat.zero_le _, Nat.zero_le _⟩ (join_e1 hX hb (hmb c7) c27 (hG3 (hmb c7)))
    · refine zV_aload_n d_Gr_join_30 rfl ?_
      refine zS_getr (r := 76) d_Gr_join_31 f_Gr_9 rfl rfl rfl ?_
      refine zV_iload_n d_Gr_join_34 rfl ?_
      refine zV_iload d_Gr_join_35 rfl ?_
      refine zS_invsE (mt' := m_Ma_max) (avs := [(0, (ρ a)), (0, (ρ b))]) (st := [(2, 76)]) d_Gr_join_37 l_Gr_64 k_Ma_max rfl rfl rfl rfl (s_Ma_max (zup (zup mem 76 a (ρ a)) 76 b (ρ b)) (ρ a) (ρ b) (by omega) (by omega)) ?_
      show zS zT m_Gr_join (0, 0) 40 [some (2, 75), some (0, a), some (0, b), some (0, (ρ a)), some (0, (ρ b))] [(0, (maxI (ρ a) (ρ b))), (2, 76)] (zup (zup mem 76 a (ρ a)) 76 b (ρ b)) _
      refine zV_iload_n d_Gr_join_40 rfl ?_
      refine zV_iload d_Gr_join_41 rfl ?_
      refine zS_invsE (mt' := m_Ma_min) (avs := [(0, (ρ a)), (0, (ρ b))]) (st := [(0, (maxI (ρ a) (ρ b))), (2, 76)]) d_Gr_join_43 l_Gr_69 k_Ma_min rfl rfl rfl rfl (s_Ma_min (zup (zup mem 76 a (ρ a)) 76 b (ρ b)) (ρ a) (ρ b) (by omega) (by omega)) ?_
      show zS zT m_Gr_join (0, 0) 46 [some (2, 75), some (0, a), some (0, b), some (0, (ρ a)), some (0, (ρ b))] [(0, (minI (ρ a) (ρ b))), (0, (maxI (ρ a) (ρ b))), (2, 76)] (zup (zup mem 76 a (ρ a)) 76 b (ρ b)) _
      refine zS_iast d_Gr_join_46 rfl rfl (by obtain ⟨z1, z2⟩ := mm_lt c27; exact ⟨by omega, by omega⟩) ?_
      refine zV_aload_n d_Gr_join_47 rfl ?_
      refine zV_dup d_Gr_join_48 (show (2 : Nat) ≠ 1 by decide) ?_
      refine zS_get d_Gr_join_49 f_Gr_15 rfl rfl ?_
      rw [show (zup (zup (zup mem 76 a (ρ a)) 76 b (ρ b)) 76 (maxI (ρ a) (ρ b)) (minI (ρ a) (ρ b))) 75 1 = (mem 75 1) from (zup_c (by omega)).trans ((zup_c (by omega)).trans (zup_c (by omega)))]
      refine zV_iconst d_Gr_join_52 ?_
      refine zV_isub d_Gr_join_53 ?_
      refine zS_puti d_Gr_join_54 f_Gr_15 rfl ⟨rfl, rfl⟩ rfl ?_
      exact zS_vret d_Gr_join_57 rfl ⟨Nat.zero_le _, Nat.zero_le _⟩ (join_e2 hX ha hb hma (hmb c7) c27 (hG3 (hmb c7)))
  · exact zS_vret d_Gr_join_10 rfl ⟨Nat.zero_le _, Nat.zero_le _⟩ ⟨rfl, by rw [jnR_n (by rcases rb.2 with z | z <;> omega)]; exact hX, fun _ _ _ => rfl⟩
noncomputable def bgG (mem : zMem) (p : Int) (b : Int) : zMem := cif (b = 0) (zup mem 76 p (-1)) (zup (zup mem 76 p p) 75 1 (mem 75 1 + 1))
theorem s_Gr_begin (mem : zMem) (p b : Int) (hp : 0 ≤ p ∧ p < 225) (hb : b = 0 ∨ b = 1) : zF m_Gr_begin [(2, 75), (0, p), (0, b)] mem (fun r m => r = none ∧ m = bgG mem p b) := by
  refine zF_of (by decide) (Nat.le_of_ble_eq_true rfl) ?_
  show zS zT m_Gr_begin (0, 0) 0 [some (2, 75), some (0, p), some (0, b)] [] mem _
  refine zV_aload_n d_Gr_begin_0 rfl ?_
  refine zS_getr (r := 76) d_Gr_begin_1 f_Gr_9 rfl rfl rfl ?_
  refine zV_iload_n d_Gr_begin_4 rfl ?_
  refine zV_iload_n d_Gr_begin_5 rfl ?_
  refine zV_if_eq d_Gr_begin_6 (by omega) (fun c6 => ?_) (fun c6 => ?_)
  · refine zV_iconst d_Gr_begin_13 ?_
    refine zS_iast d_Gr_begin_14 rfl rfl ⟨by omega, by omega⟩ ?_
    refine zV_iload_n d_Gr_begin_15 rfl ?_
    refine zV_if_eq d_Gr_begin_16 (by omega) (fun c16 => ?_) (fun c16 => ?_)
    · exact zS_vret d_Gr_begin_29 rfl ⟨Nat.zero_le _, Nat.zero_le _⟩ (by refine ⟨rfl, ?_⟩; unfold bgG; first | (exfalso; omega) | rw [cif_t (by omega)] | rw [cif_f (by omega)])
    · refine zV_aload_n d_Gr_begin_19 rfl ?_
      refine zV_dup d_Gr_begin_20 (show (2 : Nat) ≠ 1 by decide) ?_
      refine zS_get d_Gr_begin_21 f_Gr_15 rfl rfl ?_
      rw [show (zup mem 76 p (-1)) 75 1 = (mem 75 1) from zup_c (by omega)]
      refine zV_iconst d_Gr_begin_24 ?_
      refine zV_iadd d_Gr_begin_25 ?_
      refine zS_puti d_Gr_begin_26 f_Gr_15 rfl ⟨rfl, rfl⟩ rfl ?_
      exact zS_vret d_Gr_begin_29 rfl ⟨Nat.zero_le _, Nat.zero_le _⟩ (by refine ⟨rfl, ?_⟩; unfold bgG; first | (exfalso; omega) | rw [cif_t (by omega)] | rw [cif_f (by omega)])
  · refine zV_iload_n d_Gr_begin_9 rfl ?_
    refine zV_goto d_Gr_begin_10 ?_
    refine zS_iast d_Gr_begin_14 rfl rfl ⟨by omega, by omega⟩ ?_
    refine zV_iload_n d_Gr_begin_15 rfl ?_
    refine zV_if_eq d_Gr_begin_16 (by omega) (fun c16 => ?_) (fun c16 => ?_)
    · exact zS_vret d_Gr_begin_29 rfl ⟨Nat.zero_le _, Nat.zero_le _⟩ (by refine ⟨rfl, ?_⟩; unfold bgG; first | (exfalso; omega) | rw [cif_t (by omega)] | rw [cif_f (by omega)])
    · refine zV_aload_n d_Gr_begin_19 rfl ?_
      refine zV_dup d_Gr_begin_20 (show (2 : Nat) ≠ 1 by decide) ?_
      refine zS_get d_Gr_begin_21 f_Gr_15 rfl rfl ?_
      rw [show (zup mem 76 p p) 75 1 = (mem 75 1) from zup_c (by omega)]
      refine zV_iconst d_Gr_begin_24 ?_
      refine zV_iadd d_Gr_begin_25 ?_
      refine zS_puti d_Gr_begin_26 f_Gr_15 rfl ⟨rfl, rfl⟩ rfl ?_
      exact zS_vret d_Gr_begin_29 rfl ⟨Nat.zero_le _, Nat.zero_le _⟩ (by refine ⟨rfl, ?_⟩; unfold bgG; first | (exfalso; omega) | rw [cif_t (by omega)] | rw [cif_f (by omega)])
