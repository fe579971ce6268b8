/-! stacks, built: uprights, reading the row -/
def RT (mem : zMem) (t : Int) : Prop := (∀ p, 0 ≤ p → p < 12 → isRo t (mem (t + 1) p)) ∧ ∀ p q, 0 ≤ p → p < q → q < 12 → mem (t + 1) p ≠ mem (t + 1) q
def PTS (mem : zMem) (t : Int) (pt : Int → Pt) : Prop := ∀ p, 0 ≤ p → p < mem t 1 → okP (pt p) ∧ rP mem (mem (t + 1) p) = pt p
noncomputable def stA (pt : Int → Pt) (n x : Int) : Int := cif (zff (fun p => sgP (pt p) 0 1 (-x) = 0) (n - 0).toNat 0 < n) (2 * zff (fun p => sgP (pt p) 0 1 (-x) = 0) (n - 0).toNat 0 + 1) 0
theorem stA_r (pt : Int → Pt) {n x : Int} (hn : 0 ≤ n ∧ n ≤ 12) : 0 ≤ stA pt n x ∧ stA pt n x ≤ 24 := by
  have hr := zff_r (p := fun p => sgP (pt p) 0 1 (-x) = 0) (n - 0).toNat 0
  unfold stA
  rcases Classical.em (zff (fun p => sgP (pt p) 0 1 (-x) = 0) (n - 0).toNat 0 < n) with h | h
  · rw [cif_t h]; omega
  · rw [cif_f h]; omega
theorem s_St_stackAt_l (mem : zMem) (t x : Int) (h : isSt t) (hR : RT mem t) (pt : Int → Pt) (hP : PTS mem t pt) (hn : 0 ≤ mem t 1 ∧ mem t 1 ≤ 12) (hx : -9 ≤ x ∧ x ≤ 9) (q : Int) : ∀ (p : Int), (0 ≤ p ∧ p ≤ mem t 1) → (zff (fun p => sgP (pt p) 0 1 (-x) = 0) (mem t 1 - p).toNat p = q) → zS zT m_St_stackAt (0, 0) 2 [some (2, t), some (0, x), some (0, p)] [] mem (zQs (fun r m => r = some (0, cif (q < mem t 1) (2 * q + 1) 0) ∧ m = mem)) := by
  intro p
  obtain ⟨k9, hk9⟩ : ∃ kq : Nat, (mem t 1 - p).toNat = kq := ⟨_, rfl⟩
  induction k9 using Nat.strongRecOn generalizing p with
  | _ k9 ih =>
    intro i0 i1
    have hpt9 := fun q => hP p i0.1 q
    refine zV_iload_n d_St_stackAt_2 rfl ?_
    refine zV_aload_n d_St_stackAt_3 rfl ?_
    refine zS_get d_St_stackAt_4 f_St_17 (kSt0 h) rfl ?_
    refine zV_icmp_ge d_St_stackAt_7 (by omega) (by omega) (fun c7 => ?_) (fun c7 => ?_)
    · refine zV_iconst d_St_stackAt_39 ?_
      exact zS_iret d_St_stackAt_40 rfl ⟨Nat.zero_le _, Nat.zero_le _⟩ ⟨by rw [← i1, zff_e (n := mem t 1) (by omega), cif_f (by omega)], rfl⟩
    · refine zV_aload_n d_St_stackAt_10 rfl ?_
      refine zS_getr (r := (t + 1)) d_St_stackAt_11 f_St_11 (kSt0 h) rfl rfl ?_
      refine zV_iload_n d_St_stackAt_14 rfl ?_
      refine zS_ald16 d_St_stackAt_15 (kSt1 h) rfl ⟨by omega, by omega⟩ ?_
      refine zV_lconst0 d_St_stackAt_16 ?_
      refine zV_lconst1 d_St_stackAt_17 ?_
      refine zV_iload_n d_St_stackAt_18 rfl ?_
      refine zV_ineg d_St_stackAt_19 ?_
      refine zV_i2l d_St_stackAt_20 (by omega) ?_
      refine zS_invvE (mt' := m_Ro_signOf) (avs := [(1, 0), (1, 1), (1, (-x))]) (st := []) d_St_stackAt_21 l_St_135 k_Ro_signOf (kRoc h (hR.1 p (by omega) (by omega))) rfl rfl rfl rfl (s_Ro_signOf mem (mem (t + 1) p) 0 1 (-x) (kRoc h (hR.1 p (by omega) (by omega))) (by rw [(hpt9 (by omega)).2]; exact (hpt9 (by omega)).1) (by omega) (by omega) (by omega)) ?_
      show zS zT m_St_stackAt (0, 0) 24 [some (2, t), some (0, x), some (0, p)] [(0, (sgP (rP mem (mem (t + 1) p)) 0 1 (-x)))] mem _
      refine zV_if_ne d_St_stackAt_24 (sgP_i _ _ _ _) (fun c24 => ?_) (fun c24 => ?_)
      · refine zV_iinc (L' := [some (2, t), some (0, x), some (0, (p + 1))]) d_St_stackAt_33 (by decide) rfl rfl ?_
        refine zV_goto d_St_stackAt_36 ?_
        refine ih _ (by omega) (p + 1) rfl (by omega) ?_
        rw [← i1, zff_f (p := (fun p => sgP (pt p) 0 1 (-x) = 0)) (n := mem t 1) (i := p) (by omega) (show ¬ sgP (pt p) 0 1 (-x) = 0 by rw [← (hpt9 (by omega)).2]; exact c24)]
      · refine zV_iconst d_St_stackAt_27 ?_
        refine zV_iload_n d_St_stackAt_28 rfl ?_
        refine zV_imul d_St_stackAt_29 ?_
        refine zV_iconst d_St_stackAt_30 ?_
        refine zV_iadd d_St_stackAt_31 ?_
        exact zS_iret d_St_stackAt_32 rfl ⟨Nat.zero_le _, Nat.zero_le _⟩ ⟨by rw [← i1, zff_t (p := (fun p => sgP (pt p) 0 1 (-x) = 0)) (n := mem t 1) (i := p) (by omega) (show sgP (pt p) 0 1 (-x) = 0 by rw [← (hpt9 (by omega)).2]; exact c24), cif_t (by omega)], rfl⟩
theorem s_St_stackAt (mem : zMem) (t x : Int) (h : isSt t) (hR : RT mem t) (pt : Int → Pt) (hP : PTS mem t pt) (hn : 0 ≤ mem t 1 ∧ mem t 1 ≤ 12) (hx : -9 ≤ x ∧ x ≤ 9) : zF m_St_stackAt [(2, t), (0, x)] mem (fun r m => r = some (0, stA pt (mem t 1) x) ∧ m = mem) := by
  refine zF_of (by decide) (Nat.le_of_ble_eq_true rfl) ?_
  show zS zT m_St_stackAt (0, 0) 0 [some (2, t), some (0, x), none] [] mem _
  refine zV_iconst d_St_stackAt_0 ?_
  refine zV_istore_n (L' := [some (2, t), some (0, x), some (0, 0)]) d_St_stackAt_1 (by decide) rfl ?_
  exact s_St_stackAt_l mem t x h hR pt hP hn hx _ 0 ⟨by omega, hn.1⟩ rfl
def plW (mem : zMem) (t : Int) (pt : Int → Pt) (c0 s0 : Int) (m : zMem) : Prop := (∀ x, x ≠ t + 3 → m x = mem x) ∧ ∀ s c, 0 ≤ s → s < 25 → 0 ≤ c → c < 4 → m (t + 3) (4 * s + c) = if (c < c0 ∨ c = c0 ∧ s < s0) ∧ c < mem t 3 ∧ mem (t + 4) c = 1 ∧ s < mem t 2 then stA pt (mem t 1) (mem (t + 7) c) else mem (t + 3) (4 * s + c)
theorem if_cg {p q : Prop} [Decidable p] [Decidable q] {a b : Int} (h : p ↔ q) : (if p then a else b) = if q then a else b := by
  by_cases e : p
  · rw [if_pos e, if_pos (h.mp e)]
  · rw [if_neg e, if_neg (fun z => e (h.mpr z))]
theorem plW_up {mem m : zMem} {t : Int} {pt : Int → Pt} {c0 s0 : Int} (h : plW mem t pt c0 s0 m) (he : mem t 2 ≤ s0 ∨ mem (t + 4) c0 ≠ 1) : plW mem t pt (c0 + 1) 0 m := by
  refine ⟨h.1, fun s c q1 q2 q3 q4 => (h.2 s c q1 q2 q3 q4).trans (if_cg ?_)⟩
  constructor
  · rintro ⟨z1, z2, z3, z4⟩
    exact ⟨by omega, z2, z3, z4⟩
  · rintro ⟨z1, z2, z3, z4⟩
    refine ⟨?_, z2, z3, z4⟩
    by_cases e : c = c0
    · subst e; omega
    · omega
theorem plW_st {mem m : zMem} {t : Int} {pt : Int → Pt} {c0 s0 v : Int} (h : plW mem t pt c0 s0 m) (hc : 0 ≤ c0 ∧ c0 < mem t 3) (h4 : mem t 3 ≤ 4) (hs : 0 ≤ s0 ∧ s0 < mem t 2) (hu : mem (t + 4) c0 = 1) (hv : v = stA pt (mem t 1) (mem (t + 7) c0)) : plW mem t pt c0 (s0 + 1) (zup m (t + 3) (4 * s0 + c0) v) := by
  refine ⟨fun x hx => by rw [zup_a hx]; exact h.1 x hx, fun s c q1 q2 q3 q4 => ?_⟩
  rw [zup_f]
  by_cases e : s = s0 ∧ c = c0
  · obtain ⟨rfl, rfl⟩ := e
    rw [uf_s, hv, if_pos ⟨by omega, hc.2, hu, hs.2⟩]
  · rw [uf_n (by omega)]
    refine (h.2 s c q1 q2 q3 q4).trans (if_cg ?_)
    constructor
    · rintro ⟨z1, z2⟩; exact ⟨by omega, z2⟩
    · rintro ⟨z1, z2⟩; exact ⟨by omega, z2⟩
theorem ro_n3 {t x : Int} (hx : isRo t x) : x ≠ t + 3 := by have h9 : t + 9 ≤ x ∧ x < t + 21 := hx; omega
theorem s_St_placeUprights_32 (mem : zMem) (t : Int) (h : isSt t) (hC : okC mem t) (hR0 : RT mem t) (pt : Int → Pt) (hP0 : PTS mem t pt) (hn0 : 0 ≤ mem t 1 ∧ mem t 1 ≤ 12) (hz : 0 ≤ mem t 2 ∧ mem t 2 ≤ 25) (c v : Int) (hc : 0 ≤ c ∧ c < mem t 3) (hu : mem (t + 4) c = 1) (hv : v = stA pt (mem t 1) (mem (t + 7) c)) (kk : ∀ m, plW mem t pt (c + 1) 0 m → zS zT m_St_placeUprights (0, 0) 57 [some (2, t), some (0, c), none, none] [] m (zQs (fun r m => r = none ∧ plW mem t pt (mem t 3) 0 m))) : ∀ (s : Int) (m : zMem), (0 ≤ s ∧ s ≤ mem t 2) → (plW mem t pt c s m) → zS zT m_St_placeUprights (0, 0) 32 [some (2, t), some (0, c), some (0, v), some (0, s)] [] m (zQs (fun r m => r = none ∧ plW mem t pt (mem t 3) 0 m)) := by
  intro s m
  obtain ⟨k9, hk9⟩ : ∃ kq : Nat, (mem t 2 - s).toNat = kq := ⟨_, rfl⟩
  induction k9 using Nat.strongRecOn generalizing s m with
  | _ k9 ih =>
    intro i0 i1
    obtain ⟨c1, c2⟩ := id hC
    have e0 : m t = mem t := i1.1 _ (by omega)
    have e02 : m t 2 = mem t 2 := by rw [e0]
    have e03 : m t 3 = mem t 3 := by rw [e0]
    refine zV_iload_n d_St_placeUprights_32 rfl ?_
    refine zV_aload_n d_St_placeUprights_33 rfl ?_
    refine zS_get d_St_placeUprights_34 f_St_21 (kSt0 h) rfl ?_
    refine zV_icmp_ge d_St_placeUprights_37 (by omega) (by omega) (fun c37 => ?_) (fun c37 => ?_)
    · refine zV_forget (L' := [some (2, t), some (0, c), none, none]) (by simp [zle]) ?_
      exact kk m (plW_up i1 (Or.inl (by omega)))
    · refine zV_aload_n d_St_placeUprights_40 rfl ?_
      refine zS_getr (r := (t + 3)) d_St_placeUprights_41 f_St_31 (kSt0 h) rfl rfl ?_
      refine zV_iconst d_St_placeUprights_44 ?_
      refine zV_iload_n d_St_placeUprights_45 rfl ?_
      refine zV_imul d_St_placeUprights_46 ?_
      refine zV_iload_n d_St_placeUprights_47 rfl ?_
      refine zV_iadd d_St_placeUprights_48 ?_
      refine zV_iload_n d_St_placeUprights_49 rfl ?_
      refine zS_iast d_St_placeUprights_50 (kSt3 h) rfl ⟨by omega, by omega⟩ ?_
      refine zV_iinc (L' := [some (2, t), some (0, c), some (0, v), some (0, (s + 1))]) d_St_placeUprights_51 (by decide) rfl rfl ?_
      refine zV_goto d_St_placeUprights_54 ?_
      exact ih _ (by omega) (s + 1) _ rfl (by omega) (plW_st i1 hc c1.2 ⟨i0.1, by omega⟩ hu hv)
theorem s_St_placeUprights_57 (m : zMem) (t c : Int) (hc : 0 ≤ c ∧ c < 4) (Q9 : zQ2) (kk : zS zT m_St_placeUprights (0, 0) 2 [some (2, t), some (0, (c + 1)), none, none] [] m (zQs Q9)) : zS zT m_St_placeUprights (0, 0) 57 [some (2, t), some (0, c), none, none] [] m (zQs Q9) := by
  refine zV_iinc (L' := [some (2, t), some (0, (c + 1)), none, none]) d_St_placeUprights_57 (by decide) rfl rfl ?_
  refine zV_goto d_St_placeUprights_60 ?_
  exact kk
theorem s_St_placeUprights_2 (mem : zMem) (t : Int) (h : isSt t) (hC : okC mem t) (hR0 : RT mem t) (pt : Int → Pt) (hP0 : PTS mem t pt) (hn0 : 0 ≤ mem t 1 ∧ mem t 1 ≤ 12) (hz : 0 ≤ mem t 2 ∧ mem t 2 ≤ 25) : ∀ (c : Int) (m : zMem), (0 ≤ c ∧ c ≤ mem t 3) → (plW mem t pt c 0 m) → zS zT m_St_placeUprights (0, 0) 2 [some (2, t), some (0, c), none, none] [] m (zQs (fun r m => r = none ∧ plW mem t pt (mem t 3) 0 m)) := by
  intro c m
  obtain ⟨k9, hk9⟩ : ∃ kq : Nat, (mem t 3 - c).toNat = kq := ⟨_, rfl⟩
  induction k9 using Nat.strongRecOn generalizing c m with
  | _ k9 ih =>
    intro i0 i1
    obtain ⟨c1, c2⟩ := id hC
    have e0 : m t = mem t := i1.1 _ (by omega)
    have e02 : m t 2 = mem t 2 := by rw [e0]
    have e03 : m t 3 = mem t 3 := by rw [e0]
    have hn : 0 ≤ m t 1 ∧ m t 1 ≤ 12 := by rw [e0]; exact hn0
    have e1 : m (t + 1) = mem (t + 1) := i1.1 _ (by omega)
    have e4 : m (t + 4) c = mem (t + 4) c := by rw [i1.1 (t + 4) (by omega)]
    have e7 : m (t + 7) c = mem (t + 7) c := by rw [i1.1 (t + 7) (by omega)]
    have hR : RT m t := by unfold RT; rw [e1]; exact hR0
    have hP : PTS m t pt := fun p q1 q2 => by
      rw [e0] at q2
      obtain ⟨z1, z2⟩ := hP0 p q1 q2
      refine ⟨z1, ?_⟩
      rw [← z2, e1]
      unfold rP
      rw [i1.1 _ (ro_n3 (hR0.1 p q1 (by omega)))]
    have rA := stA_r pt (x := m (t + 7) c) hn
    have gc := fun q => c2 c i0.1 q
    refine zV_iload_n d_St_placeUprights_2 rfl ?_
    refine zV_aload_n d_St_placeUprights_3 rfl ?_
    refine zS_get d_St_placeUprights_4 f_St_24 (kSt0 h) rfl ?_
    refine zV_icmp_ge d_St_placeUprights_7 (by omega) (by omega) (fun c7 => ?_) (fun c7 => ?_)
    · exact zS_vret d_St_placeUprights_63 rfl ⟨Nat.zero_le _, Nat.zero_le _⟩ ⟨rfl, by rw [show mem t 3 = c by omega]; exact i1⟩
    · refine zV_aload_n d_St_placeUprights_10 rfl ?_
      refine zS_getr (r := (t + 4)) d_St_placeUprights_11 f_St_34 (kSt0 h) rfl rfl ?_
      refine zV_iload_n d_St_placeUprights_14 rfl ?_
      refine zS_zald d_St_placeUprights_15 (kSt4 h) rfl ⟨by omega, by omega⟩ ?_
      refine zV_if_eq d_St_placeUprights_16 (by omega) (fun c16 => ?_) (fun c16 => ?_)
      · exact s_St_placeUprights_57 m t c (by omega) _ (ih _ (by omega) (c + 1) m rfl ⟨by omega, by omega⟩ (plW_up i1 (Or.inr (by omega))))
      · refine zV_aload_n d_St_placeUprights_19 rfl ?_
        refine zV_aload_n d_St_placeUprights_20 rfl ?_
        refine zS_getr (r := (t + 7)) d_St_placeUprights_21 f_St_44 (kSt0 h) rfl rfl ?_
        refine zV_iload_n d_St_placeUprights_24 rfl ?_
        refine zS_iald d_St_placeUprights_25 (kSt7 h) rfl ⟨by omega, by omega⟩ ?_
        refine zS_invvE (mt' := m_St_stackAt) (avs := [(0, (m (t + 7) c))]) (st := []) d_St_placeUprights_26 l_St_146 k_St_stackAt (kSt0 h) rfl rfl rfl rfl (s_St_stackAt m t (m (t + 7) c) h hR pt hP hn (by omega)) ?_
        show zS zT m_St_placeUprights (0, 0) 29 [some (2, t), some (0, c), none, none] [(0, (stA pt (m t 1) (m (t + 7) c)))] m _
        refine zV_istore_n (L' := [some (2, t), some (0, c), some (0, (stA pt (m t 1) (m (t + 7) c))), none]) d_St_placeUprights_29 (by decide) rfl ?_
        refine zV_iconst d_St_placeUprights_30 ?_
        refine zV_istore_n (L' := [some (2, t), some (0, c), some (0, (stA pt (m t 1) (m (t + 7) c))), some (0, 0)]) d_St_placeUprights_31 (by decide) rfl ?_
        refine s_St_placeUprights_32 mem t h hC hR0 pt hP0 hn0 hz c _ ⟨i0.1, by omega⟩ (by have := gc (by omega); omega) (by rw [e0, e7]) (fun m1 p1 => ?_) 0 m ⟨by omega, hz.1⟩ i1
        exact s_St_placeUprights_57 m1 t c (by omega) _ (ih _ (by omega) (c + 1) m1 rfl ⟨by omega, by omega⟩ p1)
theorem s_St_placeUprights (mem : zMem) (t : Int) (h : isSt t) (hC : okC mem t) (hR0 : RT mem t) (pt : Int → Pt) (hP0 : PTS mem t pt) (hn0 : 0 ≤ mem t 1 ∧ mem t 1 ≤ 12) (hz : 0 ≤ mem t 2 ∧ mem t 2 ≤ 25) : zF m_St_placeUprights [(2, t)] mem (fun r m => r = none ∧ plW mem t pt (mem t 3) 0 m) := by
  refine zF_of (by decide) (Nat.le_of_ble_eq_true rfl) ?_
  show zS zT m_St_placeUprights (0, 0) 0 [some (2, t), none, none, none] [] mem _
  refine zV_iconst d_St_placeUprights_0 ?_
  refine zV_istore_n (L' := [some (2, t), some (0, 0), none, none]) d_St_placeUprights_1 (by decide) rfl ?_
  exact s_St_placeUprights_2 mem t h hC hR0 pt hP0 hn0 hz 0 mem ⟨by omega, hC.1.1⟩ ⟨fun _ _ => rfl, fun s c q1 q2 q3 q4 => by rw [if_neg (by omega)]⟩
