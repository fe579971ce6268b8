/-! loops' functions; the page, rows, what is seen, forms -/
noncomputable def cif {α : Type} (c : Prop) (a b : α) : α := @ite α c (Classical.propDecidable c) a b
theorem cif_t {α : Type} {c : Prop} {a b : α} (h : c) : cif c a b = a := by unfold cif; exact if_pos h
theorem cif_f {α : Type} {c : Prop} {a b : α} (h : ¬ c) : cif c a b = b := by unfold cif; exact if_neg h
/-- the first place with p, or the end -/
noncomputable def zff (p : Int → Prop) : Nat → Int → Int
  | 0, i => i
  | k + 1, i => cif (p i) i (zff p k (i + 1))
def zsm (f : Int → Int) : Nat → Int → Int
  | 0, _ => 0
  | k + 1, i => f i + zsm f k (i + 1)
def zfo {σ : Type} (f : Int → σ → σ) : Nat → Int → σ → σ
  | 0, _, s => s
  | k + 1, i, s => zfo f k (i + 1) (f i s)
theorem zk_s {n i : Int} (h : i < n) : (n - i).toNat = (n - (i + 1)).toNat + 1 := by omega
theorem zk_0 {n i : Int} (h : n ≤ i) : (n - i).toNat = 0 := by omega
theorem zff_e {p : Int → Prop} {n i : Int} (h : n ≤ i) : zff p (n - i).toNat i = i := by rw [zk_0 h]; rfl
theorem zff_t {p : Int → Prop} {n i : Int} (h : i < n) (hp : p i) : zff p (n - i).toNat i = i := by rw [zk_s h]; exact cif_t hp
theorem zff_f {p : Int → Prop} {n i : Int} (h : i < n) (hp : ¬ p i) : zff p (n - i).toNat i = zff p (n - (i + 1)).toNat (i + 1) := by rw [zk_s h]; exact cif_f hp
theorem zsm_e {f : Int → Int} {n i : Int} (h : n ≤ i) : zsm f (n - i).toNat i = 0 := by rw [zk_0 h]; rfl
theorem zsm_s {f : Int → Int} {n i : Int} (h : i < n) : zsm f (n - i).toNat i = f i + zsm f (n - (i + 1)).toNat (i + 1) := by rw [zk_s h]; rfl
theorem zfo_e {σ : Type} {f : Int → σ → σ} {n i : Int} {s : σ} (h : n ≤ i) : zfo f (n - i).toNat i s = s := by rw [zk_0 h]; rfl
theorem zfo_s {σ : Type} {f : Int → σ → σ} {n i : Int} {s : σ} (h : i < n) : zfo f (n - i).toNat i s = zfo f (n - (i + 1)).toNat (i + 1) (f i s) := by rw [zk_s h]; rfl
theorem zfo_inv {σ : Type} {f : Int → σ → σ} (I : Int → σ → Prop) : ∀ (k : Nat) (i : Int) (s : σ), I i s → (∀ j s, i ≤ j → j < i + k → I j s → I (j + 1) (f j s)) → I (i + k) (zfo f k i s)
  | 0, i, s, h, _ => by
    rw [show i + ((0 : Nat) : Int) = i by omega]
    exact h
  | k + 1, i, s, h, hs => by
    have := zfo_inv I k (i + 1) (f i s) (hs i s (by omega) (by omega) h) (fun j s h1 h2 hj => hs j s (by omega) (by omega) hj)
    rw [show i + ((k + 1 : Nat) : Int) = i + 1 + (k : Int) by omega]
    exact this
theorem zsm_cong {f g : Int → Int} : ∀ (k : Nat) (i : Int), (∀ j, i ≤ j → j < i + k → f j = g j) → zsm f k i = zsm g k i
  | 0, _, _ => rfl
  | k + 1, i, h => by
    unfold zsm
    rw [h i (by omega) (by omega), zsm_cong k (i + 1) (fun j h1 h2 => h j (by omega) (by omega))]
theorem zff_cong {p q : Int → Prop} : ∀ (k : Nat) (i : Int), (∀ j, i ≤ j → j < i + k → (p j ↔ q j)) → zff p k i = zff q k i
  | 0, _, _ => rfl
  | k + 1, i, h => by
    unfold zff
    rw [zff_cong k (i + 1) (fun j h1 h2 => h j (by omega) (by omega))]
    have := h i (by omega) (by omega)
    rcases Classical.em (p i) with c | c
    · rw [cif_t c, cif_t (this.mp c)]
    · rw [cif_f c, cif_f (fun z => c (this.mpr z))]
theorem sqK_r (k : Int) : -1 ≤ sqK k ∧ sqK k ≤ 1 := by unfold sqK; (repeat' split) <;> omega
theorem slK_r {k b B : Int} (h : -B ≤ b ∧ b ≤ B) : -B ≤ slK k b ∧ slK k b ≤ B := by unfold slK; split <;> omega
theorem sdK_r (k b c x y : Int) : 0 ≤ sdK k b c x y ∧ sdK k b c x y ≤ 2 := by unfold sdK; have := cmpI_r (if k = 3 then c - x else sqK k * x * x + slK k b * x + c - y) 0; omega
theorem sdK_i (k b c x y : Int) : I32 (sdK k b c x y) := by have := sdK_r k b c x y; omega
def kindBy (c : Int) : Int := if c = 112 then 0 else if c = 108 then 1 else if c = 104 then 2 else if c = 117 then 3 else if c = 102 then 4 else -1
theorem kindBy_r (c : Int) : -1 ≤ kindBy c ∧ kindBy c ≤ 4 := by unfold kindBy; (repeat' split) <;> omega
def fitsP (f : Int → Int) (i : Int) : Prop := i < 23 ∧ (i % 6 = 0 → kindBy (f i) ≠ -1) ∧ ((i % 6 = 1 ∨ i % 6 = 3) → (f i = 43 ∨ f i = 45)) ∧ ((i % 6 = 2 ∨ i % 6 = 4) → (48 ≤ f i ∧ f i ≤ 57)) ∧ (i % 6 = 5 → f i = 44)
def numAt (f : Int → Int) (i : Int) : Int := if f i = 45 then -(f (i + 1) - 48) else f (i + 1) - 48
def toC (mem : zMem) (x : Int) : zMem := if mem x 0 = 3 then zup (zup mem x 1 (-mem x 1)) x 2 (-mem x 2) else zup mem x 1 (-mem x 1)
theorem s_Cu_sideAs (mem : zMem) (x k a b : Int) (hx : zkd zSH x = (0, 0)) (hk : 0 ≤ k ∧ k ≤ 4) (ha : -9 ≤ a ∧ a ≤ 9) (hb : -9 ≤ b ∧ b ≤ 9) (h1 : -9 ≤ mem x 1 ∧ mem x 1 ≤ 9) (h2 : -9 ≤ mem x 2 ∧ mem x 2 ≤ 9) : zF m_Cu_sideAs [(2, x), (0, k), (0, a), (0, b)] mem (fun r m => r = some (0, sdK k (mem x 1) (mem x 2) a b) ∧ m = mem) := by
  have q1 := mb (mb (sqK_r k) ha) ha
  have q2 := mb (slK_r (k := k) h1) ha
  refine zF_of (by decide) (Nat.le_of_ble_eq_true rfl) ?_
  show zS zT m_Cu_sideAs (0, 0) 0 [some (2, x), some (0, k), some (0, a), some (0, b), none] [] mem _
  refine zV_iload_n d_Cu_sideAs_0 rfl ?_
  refine zV_iconst d_Cu_sideAs_1 ?_
  refine zV_icmp_ne d_Cu_sideAs_2 (by omega) (by omega) (fun c2 => ?_) (fun c2 => ?_)
  · refine zV_iload_n d_Cu_sideAs_14 rfl ?_
    refine zS_invsE (mt' := m_Cu_squareOf) (avs := [(0, k)]) (st := []) d_Cu_sideAs_15 l_Cu_24 k_Cu_squareOf rfl rfl rfl rfl (s_Cu_squareOf mem k (by omega)) ?_
    show zS zT m_Cu_sideAs (0, 0) 18 [some (2, x), some (0, k), some (0, a), some (0, b), none] [(0, (sqK k))] mem _
    refine zV_iload_n d_Cu_sideAs_18 rfl ?_
    refine zV_imul d_Cu_sideAs_19 ?_
    refine zV_iload_n d_Cu_sideAs_20 rfl ?_
    refine zV_imul d_Cu_sideAs_21 ?_
    refine zV_aload_n d_Cu_sideAs_22 rfl ?_
    refine zV_iload_n d_Cu_sideAs_23 rfl ?_
    refine zS_invvE (mt' := m_Cu_slopeAs) (avs := [(0, k)]) (st := [(0, (((sqK k) * a) * a))]) d_Cu_sideAs_24 l_Cu_28 k_Cu_slopeAs hx rfl rfl rfl rfl (s_Cu_slopeAs mem x k hx (by omega)) ?_
    show zS zT m_Cu_sideAs (0, 0) 27 [some (2, x), some (0, k), some (0, a), some (0, b), none] [(0, (slK k (mem x 1))), (0, (((sqK k) * a) * a))] mem _
    refine zV_iload_n d_Cu_sideAs_27 rfl ?_
    refine zV_imul d_Cu_sideAs_28 ?_
    refine zV_iadd d_Cu_sideAs_29 ?_
    refine zV_aload_n d_Cu_sideAs_30 rfl ?_
    refine zS_get d_Cu_sideAs_31 f_Cu_18 hx rfl ?_
    refine zV_iadd d_Cu_sideAs_34 ?_
    refine zV_iload_n d_Cu_sideAs_35 rfl ?_
    refine zV_isub d_Cu_sideAs_36 ?_
    refine zV_istore (L' := [some (2, x), some (0, k), some (0, a), some (0, b), some (0, ((((((sqK k) * a) * a) + ((slK k (mem x 1)) * a)) + (mem x 2)) - b))]) d_Cu_sideAs_37 (by decide) rfl ?_
    refine zV_iload d_Cu_sideAs_39 rfl ?_
    refine zV_iconst d_Cu_sideAs_41 ?_
    refine zS_invsE (mt' := m_In_compare) (avs := [(0, ((((((sqK k) * a) * a) + ((slK k (mem x 1)) * a)) + (mem x 2)) - b)), (0, 0)]) (st := []) d_Cu_sideAs_42 l_Cu_31 k_In_compare rfl rfl rfl rfl (s_In_compare mem ((((((sqK k) * a) * a) + ((slK k (mem x 1)) * a)) + (mem x 2)) - b) 0 (by omega) (by omega)) ?_
    show zS zT m_Cu_sideAs (0, 0) 45 [some (2, x), some (0, k), some (0, a), some (0, b), some (0, ((((((sqK k) * a) * a) + ((slK k (mem x 1)) * a)) + (mem x 2)) - b))] [(0, (cmpI ((((((sqK k) * a) * a) + ((slK k (mem x 1)) * a)) + (mem x 2)) - b) 0))] mem _
    refine zV_iconst d_Cu_sideAs_45 ?_
    refine zV_iadd d_Cu_sideAs_46 ?_
    exact zS_iret d_Cu_sideAs_47 rfl ⟨Nat.zero_le _, Nat.zero_le _⟩ (by refine ⟨?_, rfl⟩; unfold sdK; first | rw [if_pos (by omega)] | rw [if_neg (by omega)])
  · refine zV_aload_n d_Cu_sideAs_5 rfl ?_
    refine zS_get d_Cu_sideAs_6 f_Cu_18 hx rfl ?_
    refine zV_iload_n d_Cu_sideAs_9 rfl ?_
    refine zV_isub d_Cu_sideAs_10 ?_
    refine zV_goto d_Cu_sideAs_11 ?_
    refine zV_istore (L' := [some (2, x), some (0, k), some (0, a), some (0, b), some (0, ((mem x 2) - a))]) d_Cu_sideAs_37 (by decide) rfl ?_
    refine zV_iload d_Cu_sideAs_39 rfl ?_
    refine zV_iconst d_Cu_sideAs_41 ?_
    refine zS_invsE (mt' := m_In_compare) (avs := [(0, ((mem x 2) - a)), (0, 0)]) (st := []) d_Cu_sideAs_42 l_Cu_31 k_In_compare rfl rfl rfl rfl (s_In_compare mem ((mem x 2) - a) 0 (by omega) (by omega)) ?_
    show zS zT m_Cu_sideAs (0, 0) 45 [some (2, x), some (0, k), some (0, a), some (0, b), some (0, ((mem x 2) - a))] [(0, (cmpI ((mem x 2) - a) 0))] mem _
    refine zV_iconst d_Cu_sideAs_45 ?_
    refine zV_iadd d_Cu_sideAs_46 ?_
    exact zS_iret d_Cu_sideAs_47 rfl ⟨Nat.zero_le _, Nat.zero_le _⟩ (by refine ⟨?_, rfl⟩; unfold sdK; first | rw [if_pos (by omega)] | rw [if_neg (by omega)])
theorem s_Cu_turnOver (mem : zMem) (x : Int) (hx : zkd zSH x = (0, 0)) (hk : 0 ≤ mem x 0 ∧ mem x 0 ≤ 4) : zF m_Cu_turnOver [(2, x)] mem (fun r m => r = none ∧ m = toC mem x) := by
  have e9 : zup mem x 1 (-mem x 1) x 0 = mem x 0 := zup_k (by omega)
  refine zF_of (by decide) (Nat.le_of_ble_eq_true rfl) ?_
  show zS zT m_Cu_turnOver (0, 0) 0 [some (2, x)] [] mem _
  refine zV_aload_n d_Cu_turnOver_0 rfl ?_
  refine zV_aload_n d_Cu_turnOver_1 rfl ?_
  refine zS_get d_Cu_turnOver_2 f_Cu_15 hx rfl ?_
  refine zV_ineg d_Cu_turnOver_5 ?_
  refine zS_puti d_Cu_turnOver_6 f_Cu_15 hx ⟨rfl, rfl⟩ rfl ?_
  refine zV_aload_n d_Cu_turnOver_9 rfl ?_
  refine zS_invvE (mt' := m_Cu_isUpright) (avs := []) (st := []) d_Cu_turnOver_10 l_Cu_37 k_Cu_isUpright hx rfl rfl rfl rfl (s_Cu_isUpright (zup mem x 1 (-(mem x 1))) x hx (by omega)) ?_
  show zS zT m_Cu_turnOver (0, 0) 13 [some (2, x)] [(0, (zb ((zup mem x 1 (-(mem x 1))) x 0 = 3)))] (zup mem x 1 (-(mem x 1))) _
  refine zV_ifb_eq d_Cu_turnOver_13 (fun c13 => ?_) (fun c13 => ?_)
  · exact zS_vret d_Cu_turnOver_25 rfl ⟨Nat.zero_le _, Nat.zero_le _⟩ (by rw [e9] at c13; refine ⟨rfl, ?_⟩; unfold toC; first | rw [if_pos c13] | rw [if_neg c13])
  · refine zV_aload_n d_Cu_turnOver_16 rfl ?_
    refine zV_aload_n d_Cu_turnOver_17 rfl ?_
    refine zS_get d_Cu_turnOver_18 f_Cu_18 hx rfl ?_
    rw [show (zup mem x 1 (-(mem x 1))) x 2 = (mem x 2) from zup_k (by omega)]
    refine zV_ineg d_Cu_turnOver_21 ?_
    refine zS_puti d_Cu_turnOver_22 f_Cu_18 hx ⟨rfl, rfl⟩ rfl ?_
    exact zS_vret d_Cu_turnOver_25 rfl ⟨Nat.zero_le _, Nat.zero_le _⟩ (by rw [e9] at c13; refine ⟨rfl, ?_⟩; unfold toC; first | rw [if_pos c13] | rw [if_neg c13])
theorem s_Pa_append (mem : zMem) (c : Int) (h : 0 ≤ mem 1 1 ∧ mem 1 1 ≤ 24) : zF m_Pa_append [(2, 1), (0, c)] mem (fun r m => (mem 1 1 < 24 ∧ r = some (0, 1) ∧ m = zup (zup mem 2 (mem 1 1) c) 1 1 (mem 1 1 + 1)) ∨ (mem 1 1 = 24 ∧ r = some (0, 0) ∧ m = mem)) := by
  refine zF_of (by decide) (Nat.le_of_ble_eq_true rfl) ?_
  show zS zT m_Pa_append (0, 0) 0 [some (2, 1), some (0, c)] [] mem _
  refine zV_aload_n d_Pa_append_0 rfl ?_
  refine zS_get d_Pa_append_1 f_Pa_15 rfl rfl ?_
  refine zV_bipush d_Pa_append_4 ?_
  refine zV_icmp_lt d_Pa_append_6 (by omega) (by omega) (fun c6 => ?_) (fun c6 => ?_)
  · refine zV_aload_n d_Pa_append_11 rfl ?_
    refine zS_getr (r := 2) d_Pa_append_12 f_Pa_11 rfl rfl rfl ?_
    refine zV_aload_n d_Pa_append_15 rfl ?_
    refine zS_get d_Pa_append_16 f_Pa_15 rfl rfl ?_
    refine zV_iload_n d_Pa_append_19 rfl ?_
    refine zS_iast d_Pa_append_20 rfl rfl ⟨by omega, by omega⟩ ?_
    refine zV_aload_n d_Pa_append_21 rfl ?_
    refine zV_dup d_Pa_append_22 (by decide) ?_
    refine zS_get d_Pa_append_23 f_Pa_15 rfl rfl ?_
    rw [show (zup mem 2 (mem 1 1) c) 1 1 = (mem 1 1) from zup_c (by omega)]
    refine zV_iconst d_Pa_append_26 ?_
    refine zV_iadd d_Pa_append_27 ?_
    refine zS_puti d_Pa_append_28 f_Pa_15 rfl ⟨rfl, rfl⟩ rfl ?_
    refine zV_iconst d_Pa_append_31 ?_
    exact zS_zret d_Pa_append_32 rfl ⟨Nat.zero_le _, Nat.zero_le _⟩ (Or.inr rfl) (Or.inl ⟨by omega, rfl, rfl⟩)
  · refine zV_iconst d_Pa_append_9 ?_
    exact zS_zret d_Pa_append_10 rfl ⟨Nat.zero_le _, Nat.zero_le _⟩ (Or.inl rfl) (Or.inr ⟨by omega, rfl, rfl⟩)
theorem s_Pa_kindAt (mem : zMem) (i : Int) (hi : 0 ≤ i ∧ i < 24) (hc : 0 ≤ mem 2 i ∧ mem 2 i ≤ 126) : zF m_Pa_kindAt [(2, 1), (0, i)] mem (fun r m => r = some (0, kindBy (mem 2 i)) ∧ m = mem) := by
  refine zF_of (by decide) (Nat.le_of_ble_eq_true rfl) ?_
  show zS zT m_Pa_kindAt (0, 0) 0 [some (2, 1), some (0, i)] [] mem _
  refine zV_aload_n d_Pa_kindAt_0 rfl ?_
  refine zS_getr (r := 2) d_Pa_kindAt_1 f_Pa_11 rfl rfl rfl ?_
  refine zV_iload_n d_Pa_kindAt_4 rfl ?_
  refine zS_iald d_Pa_kindAt_5 rfl rfl ⟨by omega, by omega⟩ ?_
  by_cases c6_102 : (mem 2 i) = 102
  · refine zV_lsw (off := 58) (tgt := 64) d_Pa_kindAt_6 (by omega) (by decide) (by rw [c6_102]; decide) (by decide) ?_
    refine zV_iconst d_Pa_kindAt_64 ?_
    exact zS_iret d_Pa_kindAt_65 rfl ⟨Nat.zero_le _, Nat.zero_le _⟩ (by refine ⟨?_, rfl⟩; unfold kindBy; (repeat' split) <;> first | rfl | omega)
  by_cases c6_104 : (mem 2 i) = 104
  · refine zV_lsw (off := 54) (tgt := 60) d_Pa_kindAt_6 (by omega) (by decide) (by rw [c6_104]; decide) (by decide) ?_
    refine zV_iconst d_Pa_kindAt_60 ?_
    exact zS_iret d_Pa_kindAt_61 rfl ⟨Nat.zero_le _, Nat.zero_le _⟩ (by refine ⟨?_, rfl⟩; unfold kindBy; (repeat' split) <;> first | rfl | omega)
  by_cases c6_108 : (mem 2 i) = 108
  · refine zV_lsw (off := 52) (tgt := 58) d_Pa_kindAt_6 (by omega) (by decide) (by rw [c6_108]; decide) (by decide) ?_
    refine zV_iconst d_Pa_kindAt_58 ?_
    exact zS_iret d_Pa_kindAt_59 rfl ⟨Nat.zero_le _, Nat.zero_le _⟩ (by refine ⟨?_, rfl⟩; unfold kindBy; (repeat' split) <;> first | rfl | omega)
  by_cases c6_112 : (mem 2 i) = 112
  · refine zV_lsw (off := 50) (tgt := 56) d_Pa_kindAt_6 (by omega) (by decide) (by rw [c6_112]; decide) (by decide) ?_
    refine zV_iconst d_Pa_kindAt_56 ?_
    exact zS_iret d_Pa_kindAt_57 rfl ⟨Nat.zero_le _, Nat.zero_le _⟩ (by refine ⟨?_, rfl⟩; unfold kindBy; (repeat' split) <;> first | rfl | omega)
  by_cases c6_117 : (mem 2 i) = 117
  · refine zV_lsw (off := 56) (tgt := 62) d_Pa_kindAt_6 (by omega) (by decide) (by rw [c6_117]; decide) (by decide) ?_
    refine zV_iconst d_Pa_kindAt_62 ?_
    exact zS_iret d_Pa_kindAt_63 rfl ⟨Nat.zero_le _, Nat.zero_le _⟩ (by refine ⟨?_, rfl⟩; unfold kindBy; (repeat' split) <;> first | rfl | omega)
  refine zV_lsw (off := 60) (tgt := 66) d_Pa_kindAt_6 (by omega) (by decide) (by show Op.lookupswitch.offset [(102, 58), (104, 54), (108, 52), (112, 50), (117, 56)] 60 _ = 60; rw [Op.lookupswitch.offset_cons, if_neg (by omega), Op.lookupswitch.offset_cons, if_neg (by omega), Op.lookupswitch.offset_cons, if_neg (by omega), Op.lookupswitch.offset_cons, if_neg (by omega), Op.lookupswitch.offset_cons, if_neg (by omega)]; rfl) (by decide) ?_
  refine zV_iconst d_Pa_kindAt_66 ?_
  exact zS_iret d_Pa_kindAt_67 rfl ⟨Nat.zero_le _, Nat.zero_le _⟩ (by refine ⟨?_, rfl⟩; unfold kindBy; (repeat' split) <;> first | rfl | omega)
theorem s_Pa_fits (mem : zMem) (i : Int) (hi : 0 ≤ i ∧ i < 24) (hc : 0 ≤ mem 2 i ∧ mem 2 i ≤ 126) : zF m_Pa_fits [(2, 1), (0, i)] mem (fun r m => r = some (0, zb (fitsP (mem 2) i)) ∧ m = mem) := by
  refine zF_of (by decide) (Nat.le_of_ble_eq_true rfl) ?_
  show zS zT m_Pa_fits (0, 0) 0 [some (2, 1), some (0, i), none] [] mem _
  refine zV_aload_n d_Pa_fits_0 rfl ?_
  refine zS_getr (r := 2) d_Pa_fits_1 f_Pa_11 rfl rfl rfl ?_
  refine zV_iload_n d_Pa_fits_4 rfl ?_
  refine zS_iald d_Pa_fits_5 rfl rfl ⟨by omega, by omega⟩ ?_
  refine zV_istore_n (L' := [some (2, 1), some (0, i), some (0, (mem 2 i))]) d_Pa_fits_6 (by decide) rfl ?_
  refine zV_iload_n d_Pa_fits_7 rfl ?_
  refine zV_bipush d_Pa_fits_8 ?_
  refine zV_icmp_lt d_Pa_fits_10 (by omega) (by omega) (fun c10 => ?_) (fun c10 => ?_)
  · refine zV_iload_n d_Pa_fits_15 rfl ?_
    refine zV_bipush d_Pa_fits_16 ?_
    refine zV_irem_p d_Pa_fits_18 (by omega) (by omega) ?_
    by_cases c19_0 : (i % 6) = 0
    · refine zV_tsIn (off := 33) (tgt := 52) d_Pa_fits_19 (by omega) c19_0 (by decide) ?_
      refine zV_aload_n d_Pa_fits_52 rfl ?_
      refine zV_iload_n d_Pa_fits_53 rfl ?_
      refine zS_invvE (mt' := m_Pa_kindAt) (avs := [(0, i)]) (st := []) d_Pa_fits_54 l_Pa_27 k_Pa_kindAt rfl rfl rfl rfl rfl (s_Pa_kindAt mem i (by omega) (by omega)) ?_
      show zS zT m_Pa_fits (0, 0) 57 [some (2, 1), some (0, i), some (0, (mem 2 i))] [(0, (kindBy (mem 2 i)))] mem _
      refine zV_iconst d_Pa_fits_57 ?_
      refine zV_icmp_eq d_Pa_fits_58 (by have := kindBy_r (mem 2 i); omega) (by omega) (fun c58 => ?_) (fun c58 => ?_)
      · refine zV_iconst d_Pa_fits_65 ?_
        exact zS_zret d_Pa_fits_66 rfl ⟨Nat.zero_le _, Nat.zero_le _⟩ (Or.inl rfl) (by refine ⟨?_, rfl⟩; first | rw [zb_t (by unfold fitsP; omega)] | rw [zb_f (by unfold fitsP; omega)])
      · refine zV_iconst d_Pa_fits_61 ?_
        refine zV_goto d_Pa_fits_62 ?_
        exact zS_zret d_Pa_fits_66 rfl ⟨Nat.zero_le _, Nat.zero_le _⟩ (Or.inr rfl) (by refine ⟨?_, rfl⟩; first | rw [zb_t (by unfold fitsP; omega)] | rw [zb_f (by unfold fitsP; omega)])
    by_cases c19_1 : (i % 6) = 1
    · refine zV_tsIn (off := 48) (tgt := 67) d_Pa_fits_19 (by omega) c19_1 (by decide) ?_
      refine zV_iload_n d_Pa_fits_67 rfl ?_
      refine zV_bipush d_Pa_fits_68 ?_
      refine zV_icmp_eq d_Pa_fits_70 (by omega) (by omega) (fun c70 => ?_) (fun c70 => ?_)
      · refine zV_iconst d_Pa_fits_79 ?_
        refine zV_goto d_Pa_fits_80 ?_
        exact zS_zret d_Pa_fits_84 rfl ⟨Nat.zero_le _, Nat.zero_le _⟩ (Or.inr rfl) (by refine ⟨?_, rfl⟩; first | rw [zb_t (by unfold fitsP; omega)] | rw [zb_f (by unfold fitsP; omega)])
      · refine zV_iload_n d_Pa_fits_73 rfl ?_
        refine zV_bipush d_Pa_fits_74 ?_
        refine zV_icmp_ne d_Pa_fits_76 (by omega) (by omega) (fun c76 => ?_) (fun c76 => ?_)
        · refine zV_iconst d_Pa_fits_83 ?_
          exact zS_zret d_Pa_fits_84 rfl ⟨Nat.zero_le _, Nat.zero_le _⟩ (Or.inl rfl) (by refine ⟨?_, rfl⟩; first | rw [zb_t (by unfold fitsP; omega)] | rw [zb_f (by unfold fitsP; omega)])
        · refine zV_iconst d_Pa_fits_79 ?_
          refine zV_goto d_Pa_fits_80 ?_
          exact zS_zret d_Pa_fits_84 rfl ⟨Nat.zero_le _, Nat.zero_le _⟩ (Or.inr rfl) (by refine ⟨?_, rfl⟩; first | rw [zb_t (by unfold fitsP; omega)] | rw [zb_f (by unfold fitsP; omega)])
    by_cases c19_2 : (i % 6) = 2
    · refine zV_tsIn (off := 66) (tgt := 85) d_Pa_fits_19 (by omega) c19_2 (by decide) ?_
      refine zV_iload_n d_Pa_fits_85 rfl ?_
      refine zV_bipush d_Pa_fits_86 ?_
      refine zV_icmp_lt d_Pa_fits_88 (by omega) (by omega) (fun c88 => ?_) (fun c88 => ?_)
      · refine zV_iconst d_Pa_fits_101 ?_
        exact zS_zret d_Pa_fits_102 rfl ⟨Nat.zero_le _, Nat.zero_le _⟩ (Or.inl rfl) (by refine ⟨?_, rfl⟩; first | rw [zb_t (by unfold fitsP; omega)] | rw [zb_f (by unfold fitsP; omega)])
      · refine zV_iload_n d_Pa_fits_91 rfl ?_
        refine zV_bipush d_Pa_fits_92 ?_
        refine zV_icmp_gt d_Pa_fits_94 (by omega) (by omega) (fun c94 => ?_) (fun c94 => ?_)
        · refine zV_iconst d_Pa_fits_101 ?_
          exact zS_zret d_Pa_fits_102 rfl ⟨Nat.zero_le _, Nat.zero_le _⟩ (Or.inl rfl) (by refine ⟨?_, rfl⟩; first | rw [zb_t (by unfold fitsP; omega)] | rw [zb_f (by unfold fitsP; omega)])
        · refine zV_iconst d_Pa_fits_97 ?_
          refine zV_goto d_Pa_fits_98 ?_
          exact zS_zret d_Pa_fits_102 rfl ⟨Nat.zero_le _, Nat.zero_le _⟩ (Or.inr rfl) (by refine ⟨?_, rfl⟩; first | rw [zb_t (by unfold fitsP; omega)] | rw [zb_f (by unfold fitsP; omega)])
    by_cases c19_3 : (i % 6) = 3
    · refine zV_tsIn (off := 48) (tgt := 67) d_Pa_fits_19 (by omega) c19_3 (by decide) ?_
      refine zV_iload_n d_Pa_fits_67 rfl ?_
      refine zV_bipush d_Pa_fits_68 ?_
      refine zV_icmp_eq d_Pa_fits_70 (by omega) (by omega) (fun c70 => ?_) (fun c70 => ?_)
      · refine zV_iconst d_Pa_fits_79 ?_
        refine zV_goto d_Pa_fits_80 ?_
        exact zS_zret d_Pa_fits_84 rfl ⟨Nat.zero_le _, Nat.zero_le _⟩ (Or.inr rfl) (by refine ⟨?_, rfl⟩; first | rw [zb_t (by unfold fitsP; omega)] | rw [zb_f (by unfold fitsP; omega)])
      · refine zV_iload_n d_Pa_fits_73 rfl ?_
        refine zV_bipush d_Pa_fits_74 ?_
        refine zV_icmp_ne d_Pa_fits_76 (by omega) (by omega) (fun c76 => ?_) (fun c76 => ?_)
        · refine zV_iconst d_Pa_fits_83 ?_
          exact zS_zret d_Pa_fits_84 rfl ⟨Nat.zero_le _, Nat.zero_le _⟩ (Or.inl rfl) (by refine ⟨?_, rfl⟩; first | rw [zb_t (by unfold fitsP; omega)] | rw [zb_f (by unfold fitsP; omega)])
        · refine zV_iconst d_Pa_fits_79 ?_
          refine zV_goto d_Pa_fits_80 ?_
          exact zS_zret d_Pa_fits_84 rfl ⟨Nat.zero_le _, Nat.zero_le _⟩ (Or.inr rfl) (by refine ⟨?_, rfl⟩; first | rw [zb_t (by unfold fitsP; omega)] | rw [zb_f (by unfold fitsP; omega)])
    by_cases c19_4 : (i % 6) = 4
    · refine zV_tsIn (off := 66) (tgt := 85) d_Pa_fits_19 (by omega) c19_4 (by decide) ?_
      refine zV_iload_n d_Pa_fits_85 rfl ?_
      refine zV_bipush d_Pa_fits_86 ?_
      refine zV_icmp_lt d_Pa_fits_88 (by omega) (by omega) (fun c88 => ?_) (fun c88 => ?_)
      · refine zV_iconst d_Pa_fits_101 ?_
        exact zS_zret d_Pa_fits_102 rfl ⟨Nat.zero_le _, Nat.zero_le _⟩ (Or.inl rfl) (by refine ⟨?_, rfl⟩; first | rw [zb_t (by unfold fitsP; omega)] | rw [zb_f (by unfold fitsP; omega)])
      · refine zV_iload_n d_Pa_fits_91 rfl ?_
        refine zV_bipush d_Pa_fits_92 ?_
        refine zV_icmp_gt d_Pa_fits_94 (by omega) (by omega) (fun c94 => ?_) (fun c94 => ?_)
        · refine zV_iconst d_Pa_fits_101 ?_
          exact zS_zret d_Pa_fits_102 rfl ⟨Nat.zero_le _, Nat.zero_le _⟩ (Or.inl rfl) (by refine ⟨?_, rfl⟩; first | rw [zb_t (by unfold fitsP; omega)] | rw [zb_f (by unfold fitsP; omega)])
        · refine zV_iconst d_Pa_fits_97 ?_
          refine zV_goto d_Pa_fits_98 ?_
          exact zS_zret d_Pa_fits_102 rfl ⟨Nat.zero_le _, Nat.zero_le _⟩ (Or.inr rfl) (by refine ⟨?_, rfl⟩; first | rw [zb_t (by unfold fitsP; omega)] | rw [zb_f (by unfold fitsP; omega)])
    refine zV_tsOut (tgt := 103) d_Pa_fits_19 (by omega) (by omega) (by decide) ?_
    refine zV_iload_n d_Pa_fits_103 rfl ?_
    refine zV_bipush d_Pa_fits_104 ?_
    refine zV_icmp_ne d_Pa_fits_106 (by omega) (by omega) (fun c106 => ?_) (fun c106 => ?_)
    · refine zV_iconst d_Pa_fits_113 ?_
      exact zS_zret d_Pa_fits_114 rfl ⟨Nat.zero_le _, Nat.zero_le _⟩ (Or.inl rfl) (by refine ⟨?_, rfl⟩; first | rw [zb_t (by unfold fitsP; omega)] | rw [zb_f (by unfold fitsP; omega)])
    · refine zV_iconst d_Pa_fits_109 ?_
      refine zV_goto d_Pa_fits_110 ?_
      exact zS_zret d_Pa_fits_114 rfl ⟨Nat.zero_le _, Nat.zero_le _⟩ (Or.inr rfl) (by refine ⟨?_, rfl⟩; first | rw [zb_t (by unfold fitsP; omega)] | rw [zb_f (by unfold fitsP; omega)])
  · refine zV_iconst d_Pa_fits_13 ?_
    exact zS_zret d_Pa_fits_14 rfl ⟨Nat.zero_le _, Nat.zero_le _⟩ (Or.inl rfl) (by refine ⟨?_, rfl⟩; first | rw [zb_t (by unfold fitsP; omega)] | rw [zb_f (by unfold fitsP; omega)])
noncomputable def ffI (f : Int → Int) (n : Int) : Int := zff (fun i => ¬ fitsP f i) (n - 0).toNat 0
theorem s_Pa_firstFault_l (mem : zMem) (q : Int) (hn : 0 ≤ mem 1 1 ∧ mem 1 1 ≤ 24) (hc : ∀ i, 0 ≤ i → i < mem 1 1 → 0 ≤ mem 2 i ∧ mem 2 i ≤ 126) : ∀ (i : Int), (0 ≤ i) → (i ≤ mem 1 1) → (zff (fun i => ¬ fitsP (mem 2) i) (mem 1 1 - i).toNat i = q) → zS zT m_Pa_firstFault (0, 0) 2 [some (2, 1), some (0, i)] [] mem (zQs (fun r m => r = some (0, q) ∧ m = mem)) := by
  intro i
  obtain ⟨k9, hk9⟩ : ∃ k : Nat, (mem 1 1 - i).toNat = k := ⟨_, rfl⟩
  induction k9 using Nat.strongRecOn generalizing i with
  | _ k9 ih =>
    intro i0 i1 i2
    refine zV_iload_n d_Pa_firstFault_2 rfl ?_
    refine zV_aload_n d_Pa_firstFault_3 rfl ?_
    refine zS_get d_Pa_firstFault_4 f_Pa_15 rfl rfl ?_
    refine zV_icmp_ge d_Pa_firstFault_7 (by omega) (by omega) (fun c7 => ?_) (fun c7 => ?_)
    · refine zV_aload_n d_Pa_firstFault_26 rfl ?_
      refine zS_get d_Pa_firstFault_27 f_Pa_15 rfl rfl ?_
      exact zS_iret d_Pa_firstFault_30 rfl ⟨Nat.zero_le _, Nat.zero_le _⟩ ⟨by rw [← i2, zff_e (by omega)]; congr 2; omega, rfl⟩
    · refine zV_aload_n d_Pa_firstFault_10 rfl ?_
      refine zV_iload_n d_Pa_firstFault_11 rfl ?_
      refine zS_invvE (mt' := m_Pa_fits) (avs := [(0, i)]) (st := []) d_Pa_firstFault_12 l_Pa_19 k_Pa_fits rfl rfl rfl rfl rfl (s_Pa_fits mem i (by omega) (hc _ (by omega) (by omega))) ?_
      show zS zT m_Pa_firstFault (0, 0) 15 [some (2, 1), some (0, i)] [(0, (zb (fitsP (mem 2) i)))] mem _
      refine zV_ifb_ne d_Pa_firstFault_15 (fun c15 => ?_) (fun c15 => ?_)
      · refine zV_iinc (L' := [some (2, 1), some (0, (i + 1))]) d_Pa_firstFault_20 (by decide) rfl rfl ?_
        refine zV_goto d_Pa_firstFault_23 ?_
        exact ih _ (by omega) _ rfl (by omega) (by omega) (by rw [← i2, zff_f (n := mem 1 1) (i := i) (by omega) (fun h => h c15)])
      · refine zV_iload_n d_Pa_firstFault_18 rfl ?_
        exact zS_iret d_Pa_firstFault_19 rfl ⟨Nat.zero_le _, Nat.zero_le _⟩ ⟨by rw [← i2, zff_t (by omega) c15], rfl⟩
theorem s_Pa_firstFault (mem : zMem) (hn : 0 ≤ mem 1 1 ∧ mem 1 1 ≤ 24) (hc : ∀ i, 0 ≤ i → i < mem 1 1 → 0 ≤ mem 2 i ∧ mem 2 i ≤ 126) : zF m_Pa_firstFault [(2, 1)] mem (fun r m => r = some (0, ffI (mem 2) (mem 1 1)) ∧ m = mem) := by
  refine zF_of (by decide) (Nat.le_of_ble_eq_true rfl) ?_
  show zS zT m_Pa_firstFault (0, 0) 0 [some (2, 1), none] [] mem _
  refine zV_iconst d_Pa_firstFault_0 ?_
  refine zV_istore_n (L' := [some (2, 1), some (0, 0)]) d_Pa_firstFault_1 (by decide) rfl ?_
  exact s_Pa_firstFault_l mem _ hn hc 0 (by omega) (by omega) rfl
theorem zff_r {p : Int → Prop} : ∀ (k : Nat) (i : Int), i ≤ zff p k i ∧ zff p k i ≤ i + k
  | 0, i => by simp [zff]
  | k + 1, i => by
    have := zff_r (p := p) k (i + 1)
    unfold zff
    rcases Classical.em (p i) with c | c
    · rw [cif_t c]; omega
    · rw [cif_f c]; omega
theorem ffI_r {f : Int → Int} {n : Int} (h : 0 ≤ n) : 0 ≤ ffI f n ∧ ffI f n ≤ n := by
  have := zff_r (p := fun i => ¬ fitsP f i) (n - 0).toNat 0
  unfold ffI
  omega
theorem s_Pa_isPlane (mem : zMem) (hn : 0 ≤ mem 1 1 ∧ mem 1 1 ≤ 24) (hc : ∀ i, 0 ≤ i → i < mem 1 1 → 0 ≤ mem 2 i ∧ mem 2 i ≤ 126) : zF m_Pa_isPlane [(2, 1)] mem (fun r m => r = some (0, zb (mem 1 1 % 6 = 5 ∧ ffI (mem 2) (mem 1 1) = mem 1 1)) ∧ m = mem) := by
  have hf := ffI_r (f := mem 2) hn.1
  refine zF_of (by decide) (Nat.le_of_ble_eq_true rfl) ?_
  show zS zT m_Pa_isPlane (0, 0) 0 [some (2, 1)] [] mem _
  refine zV_aload_n d_Pa_isPlane_0 rfl ?_
  refine zS_get d_Pa_isPlane_1 f_Pa_15 rfl rfl ?_
  refine zV_bipush d_Pa_isPlane_4 ?_
  refine zV_irem_p d_Pa_isPlane_6 (by omega) (by omega) ?_
  refine zV_iconst d_Pa_isPlane_7 ?_
  refine zV_icmp_ne d_Pa_isPlane_8 (by omega) (by omega) (fun c8 => ?_) (fun c8 => ?_)
  · refine zV_iconst d_Pa_isPlane_26 ?_
    exact zS_zret d_Pa_isPlane_27 rfl ⟨Nat.zero_le _, Nat.zero_le _⟩ (Or.inl rfl) (by refine ⟨?_, rfl⟩; first | rw [zb_t (by omega)] | rw [zb_f (by omega)])
  · refine zV_aload_n d_Pa_isPlane_11 rfl ?_
    refine zS_invvE (mt' := m_Pa_firstFault) (avs := []) (st := []) d_Pa_isPlane_12 l_Pa_23 k_Pa_firstFault rfl rfl rfl rfl rfl (s_Pa_firstFault mem hn hc) ?_
    show zS zT m_Pa_isPlane (0, 0) 15 [some (2, 1)] [(0, (ffI (mem 2) (mem 1 1)))] mem _
    refine zV_aload_n d_Pa_isPlane_15 rfl ?_
    refine zS_get d_Pa_isPlane_16 f_Pa_15 rfl rfl ?_
    refine zV_icmp_ne d_Pa_isPlane_19 (by omega) (by omega) (fun c19 => ?_) (fun c19 => ?_)
    · refine zV_iconst d_Pa_isPlane_26 ?_
      exact zS_zret d_Pa_isPlane_27 rfl ⟨Nat.zero_le _, Nat.zero_le _⟩ (Or.inl rfl) (by refine ⟨?_, rfl⟩; first | rw [zb_t (by omega)] | rw [zb_f (by omega)])
    · refine zV_iconst d_Pa_isPlane_22 ?_
      refine zV_goto d_Pa_isPlane_23 ?_
      exact zS_zret d_Pa_isPlane_27 rfl ⟨Nat.zero_le _, Nat.zero_le _⟩ (Or.inr rfl) (by refine ⟨?_, rfl⟩; first | rw [zb_t (by omega)] | rw [zb_f (by omega)])
theorem s_Pa_numberAt (mem : zMem) (i : Int) (hi : 0 ≤ i ∧ i < 23) (hc : 0 ≤ mem 2 i ∧ mem 2 i ≤ 126) : zF m_Pa_numberAt [(2, 1), (0, i)] mem (fun r m => r = some (0, numAt (mem 2) i) ∧ m = mem) := by
  refine zF_of (by decide) (Nat.le_of_ble_eq_true rfl) ?_
  show zS zT m_Pa_numberAt (0, 0) 0 [some (2, 1), some (0, i), none] [] mem _
  refine zV_aload_n d_Pa_numberAt_0 rfl ?_
  refine zS_getr (r := 2) d_Pa_numberAt_1 f_Pa_11 rfl rfl rfl ?_
  refine zV_iload_n d_Pa_numberAt_4 rfl ?_
  refine zV_iconst d_Pa_numberAt_5 ?_
  refine zV_iadd d_Pa_numberAt_6 ?_
  refine zS_iald d_Pa_numberAt_7 rfl rfl ⟨by omega, by omega⟩ ?_
  refine zV_bipush d_Pa_numberAt_8 ?_
  refine zV_isub d_Pa_numberAt_10 ?_
  refine zV_istore_n (L' := [some (2, 1), some (0, i), some (0, ((mem 2 (i + 1)) - 48))]) d_Pa_numberAt_11 (by decide) rfl ?_
  refine zV_aload_n d_Pa_numberAt_12 rfl ?_
  refine zS_getr (r := 2) d_Pa_numberAt_13 f_Pa_11 rfl rfl rfl ?_
  refine zV_iload_n d_Pa_numberAt_16 rfl ?_
  refine zS_iald d_Pa_numberAt_17 rfl rfl ⟨by omega, by omega⟩ ?_
  refine zV_bipush d_Pa_numberAt_18 ?_
  refine zV_icmp_ne d_Pa_numberAt_20 (by omega) (by omega) (fun c20 => ?_) (fun c20 => ?_)
  · refine zV_iload_n d_Pa_numberAt_28 rfl ?_
    exact zS_iret d_Pa_numberAt_29 rfl ⟨Nat.zero_le _, Nat.zero_le _⟩ (by refine ⟨?_, rfl⟩; unfold numAt; first | rw [if_pos (by omega)] | rw [if_neg (by omega)])
  · refine zV_iload_n d_Pa_numberAt_23 rfl ?_
    refine zV_ineg d_Pa_numberAt_24 ?_
    refine zV_goto d_Pa_numberAt_25 ?_
    exact zS_iret d_Pa_numberAt_29 rfl ⟨Nat.zero_le _, Nat.zero_le _⟩ (by refine ⟨?_, rfl⟩; unfold numAt; first | rw [if_pos (by omega)] | rw [if_neg (by omega)])
