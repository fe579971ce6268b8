/-! what is decided: sentences -/
def soO (mem : zMem) (s q : Int) : Prop := (q = 1 ∧ ∀ j, 0 ≤ j → j ≤ mem 33 s → hdX mem 31 s j) ∨ (q ≠ 1 ∧ ∃ j, 0 ≤ j ∧ j ≤ mem 33 s ∧ hdX mem 31 s j)
def soX (mem : zMem) (p q : Int) : Prop := (p = 1 ∧ ∀ s, 0 ≤ s → s < mem 31 2 → soO mem s q) ∨ (p ≠ 1 ∧ ∃ s, 0 ≤ s ∧ s < mem 31 2 ∧ soO mem s q)
/-- the first that differs from 'all' decides -/
theorem so_no {H : Int → Prop} {R : Int → Prop} {q a j : Int} (ha : a = zb (q = 1)) (hj : R j) (hz : ¬ zb (H j) = a) : zb ((q = 1 ∧ ∀ i, R i → H i) ∨ (q ≠ 1 ∧ ∃ i, R i ∧ H i)) = 1 - a := by
  by_cases e : q = 1
  · rw [zb_t e] at ha
    rw [zb_f (fun z => ?_)]
    · omega
    · rcases z with ⟨_, z⟩ | ⟨z, _⟩
      · exact hz ((zb_t (z j hj)).trans ha.symm)
      · exact z e
  · rw [zb_f e] at ha
    rw [zb_t (Or.inr ⟨e, j, hj, Classical.byContradiction fun z => hz ((zb_f z).trans ha.symm)⟩)]
    omega
theorem so_all {H : Int → Prop} {R : Int → Prop} {q a : Int} (ha : a = zb (q = 1)) (h : ∀ i, R i → zb (H i) = a) : zb ((q = 1 ∧ ∀ i, R i → H i) ∨ (q ≠ 1 ∧ ∃ i, R i ∧ H i)) = a := by
  by_cases e : q = 1
  · rw [zb_t e] at ha
    rw [zb_t (Or.inl ⟨e, fun i hi => zb_1.mp ((h i hi).trans ha)⟩)]
    exact ha.symm
  · rw [zb_f e] at ha
    rw [zb_f (fun z => ?_)]
    · exact ha.symm
    · rcases z with ⟨z, _⟩ | ⟨_, i, hi, hz⟩
      · exact e z
      · have := h i hi
        rw [zb_t hz] at this
        omega
theorem soO_e (mem : zMem) (s q : Int) : zb (soO mem s q) = zb ((q = 1 ∧ ∀ i, (0 ≤ i ∧ i ≤ mem 33 s) → hdX mem 31 s i) ∨ (q ≠ 1 ∧ ∃ i, (0 ≤ i ∧ i ≤ mem 33 s) ∧ hdX mem 31 s i)) := by
  apply zb_iff
  unfold soO
  constructor
  · rintro (⟨a, b⟩ | ⟨a, i, b, c, d⟩)
    · exact Or.inl ⟨a, fun i hi => b i hi.1 hi.2⟩
    · exact Or.inr ⟨a, i, ⟨b, c⟩, d⟩
  · rintro (⟨a, b⟩ | ⟨a, i, ⟨b, c⟩, d⟩)
    · exact Or.inl ⟨a, fun i h1 h2 => b i ⟨h1, h2⟩⟩
    · exact Or.inr ⟨a, i, b, c, d⟩
theorem soX_e (mem : zMem) (p q : Int) : zb (soX mem p q) = zb ((p = 1 ∧ ∀ i, (0 ≤ i ∧ i < mem 31 2) → soO mem i q) ∨ (p ≠ 1 ∧ ∃ i, (0 ≤ i ∧ i < mem 31 2) ∧ soO mem i q)) := by
  apply zb_iff
  unfold soX
  constructor
  · rintro (⟨a, b⟩ | ⟨a, i, b, c, d⟩)
    · exact Or.inl ⟨a, fun i hi => b i hi.1 hi.2⟩
    · exact Or.inr ⟨a, i, ⟨b, c⟩, d⟩
  · rintro (⟨a, b⟩ | ⟨a, i, ⟨b, c⟩, d⟩)
    · exact Or.inl ⟨a, fun i h1 h2 => b i ⟨h1, h2⟩⟩
    · exact Or.inr ⟨a, i, b, c, d⟩
theorem s_Cp_isSoOver_l (mem : zMem) (s q : Int) (hT : okT mem 31) (hF : okFo mem) (hs : 0 ≤ s ∧ s < 25) (hq : I32 q) (a : Int) (ha : a = zb (q = 1)) : ∀ (j : Int), (0 ≤ j ∧ j ≤ mem 33 s + 1) → (∀ i, 0 ≤ i → i < j → zb (hdX mem 31 s i) = a) → zS zT m_Cp_isSoOver (0, 0) 14 [some (2, 0), some (0, s), some (0, q), some (0, a), some (0, j)] [] mem (zQs (fun r m => r = some (0, zb (soO mem s q)) ∧ m = mem)) := by
  intro j
  obtain ⟨k9, hk9⟩ : ∃ kq : Nat, (mem 33 s + 1 - j).toNat = kq := ⟨_, rfl⟩
  induction k9 using Nat.strongRecOn generalizing j with
  | _ k9 ih =>
    intro i0 i1
    have f1 : 0 ≤ mem 33 s ∧ mem 33 s ≤ 8 := hT.2.2.2.1 s hs.1 hs.2
    have a9 : a = 0 ∨ a = 1 := by rw [ha]; exact zb_01 _
    refine zV_iload d_Cp_isSoOver_14 rfl ?_
    refine zV_aload_n d_Cp_isSoOver_16 rfl ?_
    refine zS_getr (r := 31) d_Cp_isSoOver_17 f_Cp_42 rfl rfl rfl ?_
    refine zS_getr (r := 33) d_Cp_isSoOver_20 f_Cp_180 rfl rfl rfl ?_
    refine zV_iload_n d_Cp_isSoOver_23 rfl ?_
    refine zS_iald d_Cp_isSoOver_24 rfl rfl ⟨by omega, by omega⟩ ?_
    refine zV_icmp_gt d_Cp_isSoOver_25 (by omega) (by omega) (fun c25 => ?_) (fun c25 => ?_)
    · refine zV_iload_n d_Cp_isSoOver_62 rfl ?_
      exact zS_zret d_Cp_isSoOver_63 rfl ⟨Nat.zero_le _, Nat.zero_le _⟩ a9 ⟨by rw [soO_e, so_all ha (fun i hi => i1 i hi.1 (by omega))], rfl⟩
    · refine zV_aload_n d_Cp_isSoOver_28 rfl ?_
      refine zS_getr (r := 73) d_Cp_isSoOver_29 f_Cp_52 rfl rfl rfl ?_
      refine zV_aload_n d_Cp_isSoOver_32 rfl ?_
      refine zS_getr (r := 31) d_Cp_isSoOver_33 f_Cp_42 rfl rfl rfl ?_
      refine zV_iload_n d_Cp_isSoOver_36 rfl ?_
      refine zV_iload d_Cp_isSoOver_37 rfl ?_
      refine zS_invvE (mt' := m_Fo_holdsIn) (avs := [(2, 31), (0, s), (0, j)]) (st := []) d_Cp_isSoOver_39 l_Cp_285 k_Fo_holdsIn rfl rfl rfl rfl rfl (s_Fo_holdsIn mem 31 s j (Or.inl rfl) hT hF ⟨by omega, by omega⟩ (by omega)) ?_
      show zS zT m_Cp_isSoOver (0, 0) 42 [some (2, 0), some (0, s), some (0, q), some (0, a), some (0, j)] [(0, (zb (hdX mem 31 s j)))] mem _
      refine zV_iload_n d_Cp_isSoOver_42 rfl ?_
      refine zV_icmp_eq d_Cp_isSoOver_43 (zb_r _) (by omega) (fun c43 => ?_) (fun c43 => ?_)
      · refine zV_iinc (L' := [some (2, 0), some (0, s), some (0, q), some (0, a), some (0, (j + 1))]) d_Cp_isSoOver_56 (by decide) rfl rfl ?_
        refine zV_goto d_Cp_isSoOver_59 ?_
        refine ih _ (by omega) (j + 1) rfl (by omega) (fun i y1 y2 => ?_)
        by_cases e9 : i = j
        · rw [e9]; assumption
        · exact i1 i y1 (by omega)
      · refine zV_iload_n d_Cp_isSoOver_46 rfl ?_
        refine zV_if_ne d_Cp_isSoOver_47 (by omega) (fun c47 => ?_) (fun c47 => ?_)
        · refine zV_iconst d_Cp_isSoOver_54 ?_
          exact zS_zret d_Cp_isSoOver_55 rfl ⟨Nat.zero_le _, Nat.zero_le _⟩ (Or.inl rfl) ⟨by rw [soO_e, so_no ha (⟨i0.1, by omega⟩ : 0 ≤ j ∧ j ≤ mem 33 s) c43]; congr 2; omega, rfl⟩
        · refine zV_iconst d_Cp_isSoOver_50 ?_
          refine zV_goto d_Cp_isSoOver_51 ?_
          exact zS_zret d_Cp_isSoOver_55 rfl ⟨Nat.zero_le _, Nat.zero_le _⟩ (Or.inr rfl) ⟨by rw [soO_e, so_no ha (⟨i0.1, by omega⟩ : 0 ≤ j ∧ j ≤ mem 33 s) c43]; congr 2; omega, rfl⟩
theorem s_Cp_isSoOver (mem : zMem) (s q : Int) (hT : okT mem 31) (hF : okFo mem) (hs : 0 ≤ s ∧ s < 25) (hq : I32 q) : zF m_Cp_isSoOver [(2, 0), (0, s), (0, q)] mem (fun r m => r = some (0, zb (soO mem s q)) ∧ m = mem) := by
  have f1 : 0 ≤ mem 33 s ∧ mem 33 s ≤ 8 := hT.2.2.2.1 s hs.1 hs.2
  refine zF_of (by decide) (Nat.le_of_ble_eq_true rfl) ?_
  show zS zT m_Cp_isSoOver (0, 0) 0 [some (2, 0), some (0, s), some (0, q), none, none] [] mem _
  refine zV_iload_n d_Cp_isSoOver_0 rfl ?_
  refine zV_iconst d_Cp_isSoOver_1 ?_
  refine zV_icmp_ne d_Cp_isSoOver_2 (by omega) (by omega) (fun c2 => ?_) (fun c2 => ?_)
  · refine zV_iconst d_Cp_isSoOver_9 ?_
    refine zV_istore_n (L' := [some (2, 0), some (0, s), some (0, q), some (0, 0), none]) d_Cp_isSoOver_10 (by decide) rfl ?_
    refine zV_iconst d_Cp_isSoOver_11 ?_
    refine zV_istore (L' := [some (2, 0), some (0, s), some (0, q), some (0, 0), some (0, 0)]) d_Cp_isSoOver_12 (by decide) rfl ?_
    exact s_Cp_isSoOver_l mem s q hT hF hs hq 0 (by first | rw [zb_t (by omega)] | rw [zb_f (by omega)]) 0 ⟨by omega, by omega⟩ (fun i y1 y2 => by omega)
  · refine zV_iconst d_Cp_isSoOver_5 ?_
    refine zV_goto d_Cp_isSoOver_6 ?_
    refine zV_istore_n (L' := [some (2, 0), some (0, s), some (0, q), some (0, 1), none]) d_Cp_isSoOver_10 (by decide) rfl ?_
    refine zV_iconst d_Cp_isSoOver_11 ?_
    refine zV_istore (L' := [some (2, 0), some (0, s), some (0, q), some (0, 1), some (0, 0)]) d_Cp_isSoOver_12 (by decide) rfl ?_
    exact s_Cp_isSoOver_l mem s q hT hF hs hq 1 (by first | rw [zb_t (by omega)] | rw [zb_f (by omega)]) 0 ⟨by omega, by omega⟩ (fun i y1 y2 => by omega)
theorem s_Cp_isSo_l (mem : zMem) (p q : Int) (hT : okT mem 31) (hF : okFo mem) (hp : I32 p) (hq : I32 q) (a : Int) (ha : a = zb (p = 1)) : ∀ (s : Int), (0 ≤ s ∧ s ≤ mem 31 2) → (∀ i, 0 ≤ i → i < s → zb (soO mem i q) = a) → zS zT m_Cp_isSo (0, 0) 14 [some (2, 0), some (0, p), some (0, q), some (0, a), some (0, s)] [] mem (zQs (fun r m => r = some (0, zb (soX mem p q)) ∧ m = mem)) := by
  intro s
  obtain ⟨k9, hk9⟩ : ∃ kq : Nat, (mem 31 2 - s).toNat = kq := ⟨_, rfl⟩
  induction k9 using Nat.strongRecOn generalizing s with
  | _ k9 ih =>
    intro i0 i1
    have t2 := hT.2.1
    have a9 : a = 0 ∨ a = 1 := by rw [ha]; exact zb_01 _
    refine zV_iload d_Cp_isSo_14 rfl ?_
    refine zV_aload_n d_Cp_isSo_16 rfl ?_
    refine zS_getr (r := 31) d_Cp_isSo_17 f_Cp_42 rfl rfl rfl ?_
    refine zS_get d_Cp_isSo_20 f_Cp_244 rfl rfl ?_
    refine zV_icmp_ge d_Cp_isSo_23 (by omega) (by omega) (fun c23 => ?_) (fun c23 => ?_)
    · refine zV_iload_n d_Cp_isSo_53 rfl ?_
      exact zS_zret d_Cp_isSo_54 rfl ⟨Nat.zero_le _, Nat.zero_le _⟩ a9 ⟨by rw [soX_e, so_all ha (fun i hi => i1 i hi.1 (by omega))], rfl⟩
    · refine zV_aload_n d_Cp_isSo_26 rfl ?_
      refine zV_iload d_Cp_isSo_27 rfl ?_
      refine zV_iload_n d_Cp_isSo_29 rfl ?_
      refine zS_invvE (mt' := m_Cp_isSoOver) (avs := [(0, s), (0, q)]) (st := []) d_Cp_isSo_30 l_Cp_282 k_Cp_isSoOver rfl rfl rfl rfl rfl (s_Cp_isSoOver mem s q hT hF ⟨by omega, by omega⟩ hq) ?_
      show zS zT m_Cp_isSo (0, 0) 33 [some (2, 0), some (0, p), some (0, q), some (0, a), some (0, s)] [(0, (zb (soO mem s q)))] mem _
      refine zV_iload_n d_Cp_isSo_33 rfl ?_
      refine zV_icmp_eq d_Cp_isSo_34 (zb_r _) (by omega) (fun c34 => ?_) (fun c34 => ?_)
      · refine zV_iinc (L' := [some (2, 0), some (0, p), some (0, q), some (0, a), some (0, (s + 1))]) d_Cp_isSo_47 (by decide) rfl rfl ?_
        refine zV_goto d_Cp_isSo_50 ?_
        refine ih _ (by omega) (s + 1) rfl (by omega) (fun i y1 y2 => ?_)
        by_cases e9 : i = s
        · rw [e9]; assumption
        · exact i1 i y1 (by omega)
      · refine zV_iload_n d_Cp_isSo_37 rfl ?_
        refine zV_if_ne d_Cp_isSo_38 (by omega) (fun c38 => ?_) (fun c38 => ?_)
        · refine zV_iconst d_Cp_isSo_45 ?_
          exact zS_zret d_Cp_isSo_46 rfl ⟨Nat.zero_le _, Nat.zero_le _⟩ (Or.inl rfl) ⟨by rw [soX_e, so_no (H := fun i => soO mem i q) (R := fun i => 0 ≤ i ∧ i < mem 31 2) (j := s) ha ⟨i0.1, by omega⟩ c34]; congr 2; omega, rfl⟩
        · refine zV_iconst d_Cp_isSo_41 ?_
          refine zV_goto d_Cp_isSo_42 ?_
          exact zS_zret d_Cp_isSo_46 rfl ⟨Nat.zero_le _, Nat.zero_le _⟩ (Or.inr rfl) ⟨by rw [soX_e, so_no (H := fun i => soO mem i q) (R := fun i => 0 ≤ i ∧ i < mem 31 2) (j := s) ha ⟨i0.1, by omega⟩ c34]; congr 2; omega, rfl⟩
theorem s_Cp_isSo (mem : zMem) (p q : Int) (hT : okT mem 31) (hF : okFo mem) (hp : I32 p) (hq : I32 q) : zF m_Cp_isSo [(2, 0), (0, p), (0, q)] mem (fun r m => r = some (0, zb (soX mem p q)) ∧ m = mem) := by
  have t2 := hT.2.1
  refine zF_of (by decide) (Nat.le_of_ble_eq_true rfl) ?_
  show zS zT m_Cp_isSo (0, 0) 0 [some (2, 0), some (0, p), some (0, q), none, none] [] mem _
  refine zV_iload_n d_Cp_isSo_0 rfl ?_
  refine zV_iconst d_Cp_isSo_1 ?_
  refine zV_icmp_ne d_Cp_isSo_2 (by omega) (by omega) (fun c2 => ?_) (fun c2 => ?_)
  · refine zV_iconst d_Cp_isSo_9 ?_
    refine zV_istore_n (L' := [some (2, 0), some (0, p), some (0, q), some (0, 0), none]) d_Cp_isSo_10 (by decide) rfl ?_
    refine zV_iconst d_Cp_isSo_11 ?_
    refine zV_istore (L' := [some (2, 0), some (0, p), some (0, q), some (0, 0), some (0, 0)]) d_Cp_isSo_12 (by decide) rfl ?_
    exact s_Cp_isSo_l mem p q hT hF hp hq 0 (by first | rw [zb_t (by omega)] | rw [zb_f (by omega)]) 0 ⟨by omega, by omega⟩ (fun i y1 y2 => by omega)
  · refine zV_iconst d_Cp_isSo_5 ?_
    refine zV_goto d_Cp_isSo_6 ?_
    refine zV_istore_n (L' := [some (2, 0), some (0, p), some (0, q), some (0, 1), none]) d_Cp_isSo_10 (by decide) rfl ?_
    refine zV_iconst d_Cp_isSo_11 ?_
    refine zV_istore (L' := [some (2, 0), some (0, p), some (0, q), some (0, 1), some (0, 0)]) d_Cp_isSo_12 (by decide) rfl ?_
    exact s_Cp_isSo_l mem p q hT hF hp hq 1 (by first | rw [zb_t (by omega)] | rw [zb_f (by omega)]) 0 ⟨by omega, by omega⟩ (fun i y1 y2 => by omega)
