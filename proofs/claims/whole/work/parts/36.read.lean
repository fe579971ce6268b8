/-! stacks, built: the row is read -/
def rwK (mem : zMem) (o : Int) : Prop := (0 ≤ mem o 1 ∧ mem o 1 ≤ 4) ∧ ∀ k, 0 ≤ k → k < mem o 1 → (0 ≤ mem (o + 2 + k) 0 ∧ mem (o + 2 + k) 0 ≤ 4) ∧ (-9 ≤ mem (o + 2 + k) 1 ∧ mem (o + 2 + k) 1 ≤ 9) ∧ (-9 ≤ mem (o + 2 + k) 2 ∧ mem (o + 2 + k) 2 ≤ 9)
def frR (t : Int) (mem m : zMem) : Prop := ∀ x, x ≠ t → x ≠ t + 4 → x ≠ t + 5 → x ≠ t + 6 → x ≠ t + 7 → m x = mem x
noncomputable def rdW (mem : zMem) (t o c : Int) (m : zMem) : Prop := frR t mem m ∧ m t = uf (mem t) 3 (mem o 1) ∧ ∀ k, (m (t + 4) k = if 0 ≤ k ∧ k < c then zb (mem (o + 2 + k) 0 = 3) else mem (t + 4) k) ∧ (m (t + 5) k = if 0 ≤ k ∧ k < c then sqK (mem (o + 2 + k) 0) else mem (t + 5) k) ∧ (m (t + 6) k = if 0 ≤ k ∧ k < c then slK (mem (o + 2 + k) 0) (mem (o + 2 + k) 1) else mem (t + 6) k) ∧ (m (t + 7) k = if 0 ≤ k ∧ k < c then mem (o + 2 + k) 2 else mem (t + 7) k)
theorem if_st {c k v : Int} {f : Int → Int} {g : Int → Int} (hc : 0 ≤ c) (h : g k = if 0 ≤ k ∧ k < c then f k else v) (hv : k ≠ c → True) : (if k = c then f c else g k) = if 0 ≤ k ∧ k < c + 1 then f k else v := by
  by_cases e : k = c
  · rw [if_pos e, if_pos (by omega), e]
  · rw [if_neg e, h]
    by_cases e2 : 0 ≤ k ∧ k < c
    · rw [if_pos e2, if_pos (by omega)]
    · rw [if_neg e2, if_neg (by omega)]
theorem rdW_st {mem m : zMem} {t o c v4 v5 v6 v7 : Int} (hc : 0 ≤ c) (h : rdW mem t o c m) (h4 : v4 = zb (mem (o + 2 + c) 0 = 3)) (h5 : v5 = sqK (mem (o + 2 + c) 0)) (h6 : v6 = slK (mem (o + 2 + c) 0) (mem (o + 2 + c) 1)) (h7 : v7 = mem (o + 2 + c) 2) : rdW mem t o (c + 1) (zup (zup (zup (zup m (t + 4) c v4) (t + 5) c v5) (t + 6) c v6) (t + 7) c v7) := by
  obtain ⟨g1, g2, g3⟩ := h
  refine ⟨fun x q1 q2 q3 q4 q5 => by rw [zup_a q5, zup_a q4, zup_a q3, zup_a q2]; exact g1 x q1 q2 q3 q4 q5, by rw [zup_a (by omega), zup_a (by omega), zup_a (by omega), zup_a (by omega)]; exact g2, fun k => ?_⟩
  obtain ⟨k4, k5, k6, k7⟩ := g3 k
  refine ⟨?_, ?_, ?_, ?_⟩
  · rw [zup_a (by omega), zup_a (by omega), zup_a (by omega), zup_f, h4]
    exact if_st (f := fun k => zb (mem (o + 2 + k) 0 = 3)) hc k4 (fun _ => trivial)
  · rw [zup_a (by omega), zup_a (by omega), zup_f, zup_a (by omega), h5]
    exact if_st (f := fun k => sqK (mem (o + 2 + k) 0)) hc k5 (fun _ => trivial)
  · rw [zup_a (by omega), zup_f, zup_a (by omega), zup_a (by omega), h6]
    exact if_st (f := fun k => slK (mem (o + 2 + k) 0) (mem (o + 2 + k) 1)) hc k6 (fun _ => trivial)
  · rw [zup_f, zup_a (by omega), zup_a (by omega), zup_a (by omega), h7]
    exact if_st (f := fun k => mem (o + 2 + k) 2) hc k7 (fun _ => trivial)
theorem rdW_0 (mem : zMem) (t o : Int) : rdW mem t o 0 (zup mem t 3 (mem o 1)) := by
  refine ⟨fun x q1 _ _ _ _ => zup_a q1, zup_f _ _ _ _, fun k => ?_⟩
  rw [zup_a (by omega), zup_a (by omega), zup_a (by omega), zup_a (by omega), if_neg (by omega), if_neg (by omega), if_neg (by omega), if_neg (by omega)]
  exact ⟨rfl, rfl, rfl, rfl⟩
theorem s_St_readCurves_l (mem : zMem) (t o : Int) (h : isSt t) (h2 : isRw o) (hK : rwK mem o) : ∀ (c : Int) (m : zMem), (0 ≤ c ∧ c ≤ mem o 1) → (rdW mem t o c m) → zS zT m_St_readCurves (0, 0) 10 [some (2, t), some (2, o), some (0, c), none] [] m (zQs (fun r m => r = none ∧ rdW mem t o (mem o 1) m)) := by
  intro c m
  obtain ⟨k9, hk9⟩ : ∃ kq : Nat, (mem o 1 - c).toNat = kq := ⟨_, rfl⟩
  induction k9 using Nat.strongRecOn generalizing c m with
  | _ k9 ih =>
    intro i0 i1
    have t9 : t = 31 ∨ t = 52 := h
    have o9 : o = 3 ∨ o = 9 ∨ o = 15 := h2
    have k1 := hK.1
    have e3 : m t 3 = mem o 1 := by rw [i1.2.1, uf_s]
    have eo : 0 ≤ c → c < 4 → m (o + 2 + c) = mem (o + 2 + c) := fun q1 q2 => i1.1 _ (by omega) (by omega) (by omega) (by omega) (by omega)
    have eo0 : 0 ≤ c → c < 4 → ∀ q, m (o + 2 + c) q = mem (o + 2 + c) q := fun q1 q2 q => by rw [eo q1 q2]
    have gk := fun q => hK.2 c i0.1 q
    have eq0 := fun q1 q2 => eo0 q1 q2 0
    refine zV_iload_n d_St_readCurves_10 rfl ?_
    refine zV_aload_n d_St_readCurves_11 rfl ?_
    refine zS_get d_St_readCurves_12 f_St_24 (kSt0 h) rfl ?_
    refine zV_icmp_ge d_St_readCurves_15 (by omega) (by omega) (fun c15 => ?_) (fun c15 => ?_)
    · exact zS_vret d_St_readCurves_78 rfl ⟨Nat.zero_le _, Nat.zero_le _⟩ ⟨rfl, by rw [show mem o 1 = c by omega]; exact i1⟩
    · refine zV_aload_n d_St_readCurves_18 rfl ?_
      refine zS_getr (r := (o + 1)) d_St_readCurves_19 f_St_83 (kRw0 h2) rfl rfl ?_
      refine zV_iload_n d_St_readCurves_22 rfl ?_
      refine zS_ald15 (r := (o + 2 + c)) d_St_readCurves_23 (kRw1 h2) rfl ⟨by omega, by omega⟩ (by omega) ?_
      refine zV_astore_n (L' := [some (2, t), some (2, o), some (0, c), some (2, (o + 2 + c))]) d_St_readCurves_24 (by decide) rfl ?_
      refine zV_aload_n d_St_readCurves_25 rfl ?_
      refine zS_getr (r := (t + 4)) d_St_readCurves_26 f_St_34 (kSt0 h) rfl rfl ?_
      refine zV_iload_n d_St_readCurves_29 rfl ?_
      refine zV_aload_n d_St_readCurves_30 rfl ?_
      refine zS_invvE (mt' := m_Cu_isUpright) (avs := []) (st := [(0, c), (2, (t + 4))]) d_St_readCurves_31 l_St_87 k_Cu_isUpright (kRwc h2 (by omega) (by omega)) rfl rfl rfl rfl (s_Cu_isUpright m (o + 2 + c) (kRwc h2 (by omega) (by omega)) (by omega)) ?_
      show zS zT m_St_readCurves (0, 0) 34 [some (2, t), some (2, o), some (0, c), some (2, (o + 2 + c))] [(0, (zb (m (o + 2 + c) 0 = 3))), (0, c), (2, (t + 4))] m _
      refine zS_zast d_St_readCurves_34 (kSt4 h) rfl ⟨by omega, by omega⟩ (zb_01 _) ?_
      refine zV_aload_n d_St_readCurves_35 rfl ?_
      refine zS_getr (r := (t + 5)) d_St_readCurves_36 f_St_38 (kSt0 h) rfl rfl ?_
      refine zV_iload_n d_St_readCurves_39 rfl ?_
      refine zV_aload_n d_St_readCurves_40 rfl ?_
      refine zS_get d_St_readCurves_41 f_St_93 (kRwc h2 (by omega) (by omega)) rfl ?_
      rw [show (zup m (t + 4) c (zb (m (o + 2 + c) 0 = 3))) (o + 2 + c) 0 = (m (o + 2 + c) 0) from zup_c (by omega)]
      refine zS_invsE (mt' := m_Cu_squareOf) (avs := [(0, (m (o + 2 + c) 0))]) (st := [(0, c), (2, (t + 5))]) d_St_readCurves_44 l_St_96 k_Cu_squareOf rfl rfl rfl rfl (s_Cu_squareOf (zup m (t + 4) c (zb (m (o + 2 + c) 0 = 3))) (m (o + 2 + c) 0) (by omega)) ?_
      show zS zT m_St_readCurves (0, 0) 47 [some (2, t), some (2, o), some (0, c), some (2, (o + 2 + c))] [(0, (sqK (m (o + 2 + c) 0))), (0, c), (2, (t + 5))] (zup m (t + 4) c (zb (m (o + 2 + c) 0 = 3))) _
      refine zS_iast d_St_readCurves_47 (kSt5 h) rfl ⟨by omega, by omega⟩ ?_
      refine zV_aload_n d_St_readCurves_48 rfl ?_
      refine zS_getr (r := (t + 6)) d_St_readCurves_49 f_St_41 (kSt0 h) rfl rfl ?_
      refine zV_iload_n d_St_readCurves_52 rfl ?_
      refine zV_aload_n d_St_readCurves_53 rfl ?_
      refine zV_aload_n d_St_readCurves_54 rfl ?_
      refine zS_get d_St_readCurves_55 f_St_93 (kRwc h2 (by omega) (by omega)) rfl ?_
      rw [show (zup (zup m (t + 4) c (zb (m (o + 2 + c) 0 = 3))) (t + 5) c (sqK (m (o + 2 + c) 0))) (o + 2 + c) 0 = (m (o + 2 + c) 0) from (zup_c (by omega)).trans (zup_c (by omega))]
      refine zS_invvE (mt' := m_Cu_slopeAs) (avs := [(0, (m (o + 2 + c) 0))]) (st := [(0, c), (2, (t + 6))]) d_St_readCurves_58 l_St_100 k_Cu_slopeAs (kRwc h2 (by omega) (by omega)) rfl rfl rfl rfl (s_Cu_slopeAs (zup (zup m (t + 4) c (zb (m (o + 2 + c) 0 = 3))) (t + 5) c (sqK (m (o + 2 + c) 0))) (o + 2 + c) (m (o + 2 + c) 0) (kRwc h2 (by omega) (by omega)) (by omega)) ?_
      show zS zT m_St_readCurves (0, 0) 61 [some (2, t), some (2, o), some (0, c), some (2, (o + 2 + c))] [(0, (slK (m (o + 2 + c) 0) ((zup (zup m (t + 4) c (zb (m (o + 2 + c) 0 = 3))) (t + 5) c (sqK (m (o + 2 + c) 0))) (o + 2 + c) 1))), (0, c), (2, (t + 6))] (zup (zup m (t + 4) c (zb (m (o + 2 + c) 0 = 3))) (t + 5) c (sqK (m (o + 2 + c) 0))) _
      refine zS_iast d_St_readCurves_61 (kSt6 h) rfl ⟨by omega, by omega⟩ ?_
      refine zV_aload_n d_St_readCurves_62 rfl ?_
      refine zS_getr (r := (t + 7)) d_St_readCurves_63 f_St_44 (kSt0 h) rfl rfl ?_
      refine zV_iload_n d_St_readCurves_66 rfl ?_
      refine zV_aload_n d_St_readCurves_67 rfl ?_
      refine zS_get d_St_readCurves_68 f_St_103 (kRwc h2 (by omega) (by omega)) rfl ?_
      rw [show (zup (zup (zup m (t + 4) c (zb (m (o + 2 + c) 0 = 3))) (t + 5) c (sqK (m (o + 2 + c) 0))) (t + 6) c (slK (m (o + 2 + c) 0) ((zup (zup m (t + 4) c (zb (m (o + 2 + c) 0 = 3))) (t + 5) c (sqK (m (o + 2 + c) 0))) (o + 2 + c) 1))) (o + 2 + c) 2 = (m (o + 2 + c) 2) from (zup_c (by omega)).trans ((zup_c (by omega)).trans (zup_c (by omega)))]
      refine zS_iast d_St_readCurves_71 (kSt7 h) rfl ⟨by omega, by omega⟩ ?_
      refine zV_iinc (L' := [some (2, t), some (2, o), some (0, (c + 1)), some (2, (o + 2 + c))]) d_St_readCurves_72 (by decide) rfl rfl ?_
      refine zV_goto d_St_readCurves_75 ?_
      refine zV_forget (L' := [some (2, t), some (2, o), some (0, (c + 1)), none]) (by simp [zle]) ?_
      have ex := eo0 i0.1 (by omega)
      refine ih _ (by omega) (c + 1) _ rfl (by omega) (rdW_st i0.1 i1 ?_ ?_ ?_ ?_)
      · rw [ex]
      · rw [ex]
      · first | rw [ex, ex] | (rw [zup_a (by omega), zup_a (by omega), ex, ex]) | (rw [ex, zup_a (by omega), zup_a (by omega), ex])
      · rw [ex]
theorem s_St_readCurves (mem : zMem) (t o : Int) (h : isSt t) (h2 : isRw o) (hK : rwK mem o) : zF m_St_readCurves [(2, t), (2, o)] mem (fun r m => r = none ∧ rdW mem t o (mem o 1) m) := by
  have t9 : t = 31 ∨ t = 52 := h
  have o9 : o = 3 ∨ o = 9 ∨ o = 15 := h2
  refine zF_of (by decide) (Nat.le_of_ble_eq_true rfl) ?_
  show zS zT m_St_readCurves (0, 0) 0 [some (2, t), some (2, o), none, none] [] mem _
  refine zV_aload_n d_St_readCurves_0 rfl ?_
  refine zV_aload_n d_St_readCurves_1 rfl ?_
  refine zS_get d_St_readCurves_2 f_St_80 (kRw0 h2) rfl ?_
  refine zS_puti d_St_readCurves_5 f_St_24 (kSt0 h) ⟨rfl, rfl⟩ rfl ?_
  refine zV_iconst d_St_readCurves_8 ?_
  refine zV_istore_n (L' := [some (2, t), some (2, o), some (0, 0), none]) d_St_readCurves_9 (by decide) rfl ?_
  exact s_St_readCurves_l mem t o h h2 hK 0 _ ⟨by omega, hK.1.1⟩ (rdW_0 mem t o)
