/-! loose -/
/-- two rows hold the same curves -/
def RwE (m : zMem) (o : Int) (m' : zMem) (o' : Int) : Prop := m o 1 = m' o' 1 ∧ ∀ l k, 0 ≤ l → l < m o 1 → 0 ≤ k → k ≤ 2 → m (o + 2 + l) k = m' (o' + 2 + l) k
theorem RwE_cg {m m' : zMem} {o o' : Int} (h : RwE m o m' o') : Cg (rowM m o) 0 (rowM m' o') 0 (m o 1) := by
  refine ⟨⟨rowM_0 m o, by rw [rowM_0, h.1]⟩, fun k q1 q2 => ?_⟩
  rw [rowM_4, rowM_4, rowM_5, rowM_5, rowM_6, rowM_6, rowM_7, rowM_7, h.2 k 0 q1 q2 (by decide) (by decide), h.2 k 1 q1 q2 (by decide) (by decide), h.2 k 2 q1 q2 (by decide) (by decide)]
  exact ⟨rfl, rfl, rfl, rfl⟩
theorem RwE_pt {m m' : zMem} {o o' : Int} (h : RwE m o m' o') : ptR m o = ptR m' o' := allP_cg (RwE_cg h) _
theorem RwE_w {m m' : zMem} {o o' s c d : Int} (h : RwE m o m' o') (hc : 0 ≤ c ∧ c < m o 1) (hd : 0 ≤ d ∧ d < m o 1) : wR m o s c d = wR m' o' s c d := by
  unfold wR
  rw [← RwE_pt h]
  exact wF_cg (n := m o 1) (fun x y y1 y2 y3 y4 => FS_cg (RwE_cg h) _ s ⟨y1, y2⟩ ⟨y3, y4⟩) hc hd
theorem RwE_tp {m m' : zMem} {o o' s : Int} (h : RwE m o m' o') : tpR m o s = tpR m' o' s := by
  unfold tpR
  rw [← h.1]
  congr 1
  exact nsM_cg (fun k q1 q2 => ((RwE_cg h).2 k q1 q2).1) (fun c d q1 q2 q3 q4 => RwE_w (s := s) h ⟨q1, q2⟩ ⟨q3, q4⟩)
theorem RwE_pl {m m' : zMem} {o o' s c : Int} (h : RwE m o m' o') (hc : 0 ≤ c ∧ c < m o 1) : plR m o s c = plR m' o' s c := by
  unfold plR
  rw [← RwE_pt h, ← h.1, ← h.2 c 0 hc.1 hc.2 (by decide) (by decide), ← h.2 c 2 hc.1 hc.2 (by decide) (by decide)]
  have hb : bwM (m o 1) (rowM m o 4) (wR m o s) c = bwM (m o 1) (rowM m' o' 4) (wR m' o' s) c := bwM_cg (fun k q1 q2 => ((RwE_cg h).2 k q1 q2).1) (fun c d q1 q2 q3 q4 => RwE_w (s := s) h ⟨q1, q2⟩ ⟨q3, q4⟩) hc
  rw [hb]
theorem RwE_K {m m' : zMem} {o o' : Int} (h : RwE m o m' o') (hK : rwK m' o') : rwK m o := by
  refine ⟨by rw [h.1]; exact hK.1, fun k q1 q2 => ?_⟩
  rw [h.2 k 0 q1 q2 (by decide) (by decide), h.2 k 1 q1 q2 (by decide) (by decide), h.2 k 2 q1 q2 (by decide) (by decide)]
  exact hK.2 k q1 (by rw [← h.1]; exact q2)
/-- how many cells a row makes -/
noncomputable def cnR (mem : zMem) (o : Int) : Int := (2 * (ptR mem o).1 + 1) + 2 * zsm (fun s => tpR mem o s / 2) (2 * (ptR mem o).1 + 1 - 0).toNat 0
theorem RwE_cn {m m' : zMem} {o o' : Int} (h : RwE m o m' o') : cnR m o = cnR m' o' := by
  unfold cnR
  rw [RwE_pt h]
  congr 2
  exact zsm_cong _ _ (fun j _ _ => by show tpR m o j / 2 = tpR m' o' j / 2; rw [RwE_tp h])
theorem StD_cn {mem m : zMem} {o t : Int} (h : StD mem o m t) : m t 2 + 2 * scS m t = cnR mem o := by
  obtain ⟨_, _, h2, _, _, h3⟩ := h
  unfold cnR scS
  rw [h2]
  congr 2
  exact zsm_cong _ _ (fun j q1 q2 => by show m (t + 2) j / 2 = _; rw [(h3 j q1 (by omega)).1])
theorem cells_r {m : zMem} {t : Int} (h : okT m t) : 0 ≤ m t 2 + 2 * scS m t ∧ m t 2 + 2 * scS m t ≤ 225 := by
  obtain ⟨_, h2, _, h4, _, _⟩ := h
  have := zsm_b (f := fun s => m (t + 2) s / 2) (B := 4) (m t 2 - 0).toNat 0 (fun j q1 q2 => by have := h4 j q1 (by omega); show 0 ≤ m (t + 2) j / 2 ∧ m (t + 2) j / 2 ≤ 4; omega)
  unfold scS
  omega
/-- the row at 3 without a curve, at 0 -/
def roV (mem : zMem) (c : Int) : zMem := fun a k => if a = 0 then (if k = 1 then mem 3 1 - 1 else 0) else if a < 2 + c then mem (3 + a) k else mem (3 + a + 1) k
theorem roV_1 (mem : zMem) (c : Int) : roV mem c 0 1 = mem 3 1 - 1 := by unfold roV; rw [if_pos rfl, if_pos rfl]
theorem roV_l {mem : zMem} {c l k : Int} (h : 0 ≤ l) : roV mem c (0 + 2 + l) k = if l < c then mem (3 + 2 + l) k else mem (3 + 2 + (l + 1)) k := by
  unfold roV
  rw [if_neg (by omega), show 3 + (0 + 2 + l) = 3 + 2 + l by omega, show 3 + 2 + l + 1 = 3 + 2 + (l + 1) by omega]
  by_cases e : l < c
  · rw [if_pos e, if_pos (by omega)]
  · rw [if_neg e, if_neg (by omega)]
theorem roV_K {mem : zMem} {c : Int} (hK : rwK mem 3) (hc : 0 ≤ c ∧ c < mem 3 1) : rwK (roV mem c) 0 := by
  have hn := hK.1
  refine ⟨by rw [roV_1]; omega, fun k q1 q2 => ?_⟩
  rw [roV_1] at q2
  rw [roV_l q1, roV_l q1, roV_l q1]
  by_cases e : k < c
  · rw [if_pos e, if_pos e, if_pos e]
    exact hK.2 k q1 (by omega)
  · rw [if_neg e, if_neg e, if_neg e]
    exact hK.2 (k + 1) (by omega) (by omega)
def LW (mem m : zMem) : Prop := (∀ x, ¬ ((15 ≤ x ∧ x < 21) ∨ (52 ≤ x ∧ x < 73)) → m x = mem x) ∧ okI m 52
theorem cr_v {mem m : zMem} {c : Int} (h : LW mem m) (hn : 0 ≤ mem 3 1 ∧ mem 3 1 ≤ 4) (hc : 0 ≤ c ∧ c < mem 3 1) : RwE (rmR (cpR m 15 3) 15 c) 15 (roV mem c) 0 ∧ ∀ x, ¬ (15 ≤ x ∧ x < 21) → rmR (cpR m 15 3) 15 c x = m x := by
  have e3 : m 3 1 = mem 3 1 := by rw [h.1 3 (by omega)]
  obtain ⟨v1, v2, v3⟩ := cp_v (mem := m) (t := 15) (o := 3) (Or.inr (Or.inr rfl)) (Or.inl rfl) (by decide) (by omega)
  obtain ⟨w1, w2, w3⟩ := rm_v (mem := cpR m 15 3) (t := 15) (i := c) (by omega)
  refine ⟨⟨by rw [roV_1]; omega, fun l k q1 q2 q3 q4 => ?_⟩, fun x hx => ?_⟩
  · rw [roV_l q1]
    by_cases e : l < c
    · rw [if_pos e, w2 (15 + 2 + l) (by omega) (by omega), v3 l q1 (by omega) k (by omega), h.1 (3 + 2 + l) (by omega)]
    · rw [if_neg e, w3 l (by omega) (by omega) k (by omega), v3 (l + 1) (by omega) (by omega) k (by omega), h.1 (3 + 2 + (l + 1)) (by omega)]
  · rw [w2 x (by omega) (by omega), v2 x (by omega) (by omega)]
noncomputable def loF (mem : zMem) (c : Int) (s : Int × Int) : Int × Int := if cnR (roV mem c) 0 < s.2 then (c, cnR (roV mem c) 0) else s
theorem s_Cp_loose_l (mem : zMem) (hK : rwK mem 3) (q : Int × Int) : ∀ (c : Int) (m : zMem) (best : Int) (fw : Int), (0 ≤ c ∧ c ≤ mem 3 1) → (LW mem m) → (zfo (loF mem) (mem 3 1 - c).toNat c (best, fw) = q) → (0 ≤ fw ∧ fw ≤ 226) → zS zT m_Cp_loose (0, 0) 34 [some (2, 0), some (0, best), some (0, fw), some (0, c)] [] m (zQs (fun r m => LW mem m ∧ r = some (0, q.1))) := by
  intro c m best fw
  obtain ⟨k9, hk9⟩ : ∃ kq : Nat, (mem 3 1 - c).toNat = kq := ⟨_, rfl⟩
  induction k9 using Nat.strongRecOn generalizing c m best fw with
  | _ k9 ih =>
    intro i0 i1 i2 i3
    have k1 := hK.1
    have e3 : m 3 1 = mem 3 1 := by rw [i1.1 3 (by omega)]
    have ecp : c < mem 3 1 → cpR m 15 3 15 1 = mem 3 1 := fun _ => (cp_v (mem := m) (t := 15) (o := 3) (Or.inr (Or.inr rfl)) (Or.inl rfl) (by decide) (by omega)).1.trans e3
    have hK2f : c < mem 3 1 → rwK (rmR (cpR m 15 3) 15 c) 15 := fun q9 => RwE_K (cr_v i1 k1 ⟨i0.1, q9⟩).1 (roV_K hK ⟨i0.1, q9⟩)
    have hI2f : c < mem 3 1 → okI (rmR (cpR m 15 3) 15 c) 52 := fun q9 => okI_fr (fun x y1 y2 => (cr_v i1 k1 ⟨i0.1, q9⟩).2 x (by omega)) i1.2
    refine zV_iload_n d_Cp_loose_34 rfl ?_
    refine zV_aload_n d_Cp_loose_35 rfl ?_
    refine zS_getr (r := 3) d_Cp_loose_36 f_Cp_19 rfl rfl rfl ?_
    refine zS_get d_Cp_loose_39 f_Cp_106 rfl rfl ?_
    refine zV_icmp_ge d_Cp_loose_42 (by omega) (by omega) (fun c42 => ?_) (fun c42 => ?_)
    · refine zV_iload_n d_Cp_loose_102 rfl ?_
      exact zS_iret d_Cp_loose_103 rfl ⟨Nat.zero_le _, Nat.zero_le _⟩ ⟨i1, by rw [← i2, zfo_e (n := mem 3 1) (by omega)]⟩
    · refine zV_aload_n d_Cp_loose_45 rfl ?_
      refine zS_getr (r := 15) d_Cp_loose_46 f_Cp_26 rfl rfl rfl ?_
      refine zV_aload_n d_Cp_loose_49 rfl ?_
      refine zS_getr (r := 3) d_Cp_loose_50 f_Cp_19 rfl rfl rfl ?_
      refine zS_invvE (mt' := m_Rw_copy) (avs := [(2, 3)]) (st := []) d_Cp_loose_53 l_Cp_228 k_Rw_copy rfl rfl rfl rfl rfl (s_Rw_copy m 15 3 (Or.inr (Or.inr rfl)) (Or.inl rfl) (by decide) (by omega)) ?_
      show zS zT m_Cp_loose (0, 0) 56 [some (2, 0), some (0, best), some (0, fw), some (0, c)] [] (cpR m 15 3) _
      refine zV_aload_n d_Cp_loose_56 rfl ?_
      refine zS_getr (r := 15) d_Cp_loose_57 f_Cp_26 rfl rfl rfl ?_
      refine zV_iload_n d_Cp_loose_60 rfl ?_
      have ecp2 := ecp (by omega)
      refine zS_invvE (mt' := m_Rw_remove) (avs := [(0, c)]) (st := []) d_Cp_loose_61 l_Cp_199 k_Rw_remove rfl rfl rfl rfl rfl (s_Rw_remove (cpR m 15 3) 15 c (Or.inr (Or.inr rfl)) (by omega) (by omega)) ?_
      show zS zT m_Cp_loose (0, 0) 64 [some (2, 0), some (0, best), some (0, fw), some (0, c)] [] (rmR (cpR m 15 3) 15 c) _
      refine zV_aload_n d_Cp_loose_64 rfl ?_
      refine zS_getr (r := 52) d_Cp_loose_65 f_Cp_46 rfl rfl rfl ?_
      refine zV_aload_n d_Cp_loose_68 rfl ?_
      refine zS_getr (r := 15) d_Cp_loose_69 f_Cp_26 rfl rfl rfl ?_
      have hK2 := hK2f (by omega)
      have hI2 := hI2f (by omega)
      refine zS_invv (mt' := m_St_build) (avs := [(2, 15)]) (st := []) d_Cp_loose_72 l_Cp_119 k_St_build rfl rfl rfl rfl rfl (s_St_build (rmR (cpR m 15 3) 15 c) 52 15 (Or.inr rfl) (Or.inr (Or.inr rfl)) hK2 hI2.1 hI2.2.1 hI2.2.2) (fun r9 m9 hq9 => ?_)
      obtain ⟨rfl, hb9⟩ := hq9
      obtain ⟨hD9, hF9⟩ := bld_fin hK2 hI2 hb9
      have hcn := (StD_cn hD9).trans (RwE_cn (cr_v i1 k1 ⟨i0.1, by omega⟩).1)
      have hcr := cells_r (okT_St hD9)
      have hL9 : LW mem m9 := ⟨fun x hx => by rw [hF9 x (by omega), (cr_v i1 k1 ⟨i0.1, by omega⟩).2 x (by omega)]; exact i1.1 x hx, hD9.1⟩
      show zS zT m_Cp_loose (0, 0) 75 [some (2, 0), some (0, best), some (0, fw), some (0, c)] [] m9 _
      refine zV_aload_n d_Cp_loose_75 rfl ?_
      refine zS_getr (r := 52) d_Cp_loose_76 f_Cp_46 rfl rfl rfl ?_
      refine zS_invvE (mt' := m_St_cells) (avs := []) (st := []) d_Cp_loose_79 l_Cp_203 k_St_cells rfl rfl rfl rfl rfl (s_St_cells m9 52 (Or.inr rfl) (okT_St hD9)) ?_
      show zS zT m_Cp_loose (0, 0) 82 [some (2, 0), some (0, best), some (0, fw), some (0, c)] [(0, (m9 52 2 + 2 * scS m9 52))] m9 _
      refine zV_iload_n d_Cp_loose_82 rfl ?_
      refine zV_icmp_ge d_Cp_loose_83 (by omega) (by omega) (fun c83 => ?_) (fun c83 => ?_)
      · refine zV_iinc (L' := [some (2, 0), some (0, best), some (0, fw), some (0, (c + 1))]) d_Cp_loose_96 (by decide) rfl rfl ?_
        refine zV_goto d_Cp_loose_99 ?_
        refine ih _ (by omega) (c + 1) m9 _ _ rfl (by omega) hL9 ?_ (by omega)
        rw [← i2, zfo_s (n := mem 3 1) (i := c) (by omega)]
        unfold loF
        first | rw [if_pos (show cnR (roV mem c) 0 < fw by omega), hcn] | rw [if_neg (show ¬ cnR (roV mem c) 0 < fw by omega)]
      · refine zV_aload_n d_Cp_loose_86 rfl ?_
        refine zS_getr (r := 52) d_Cp_loose_87 f_Cp_46 rfl rfl rfl ?_
        refine zS_invvE (mt' := m_St_cells) (avs := []) (st := []) d_Cp_loose_90 l_Cp_203 k_St_cells rfl rfl rfl rfl rfl (s_St_cells m9 52 (Or.inr rfl) (okT_St hD9)) ?_
        show zS zT m_Cp_loose (0, 0) 93 [some (2, 0), some (0, best), some (0, fw), some (0, c)] [(0, (m9 52 2 + 2 * scS m9 52))] m9 _
        refine zV_istore_n (L' := [some (2, 0), some (0, best), some (0, (m9 52 2 + 2 * scS m9 52)), some (0, c)]) d_Cp_loose_93 (by decide) rfl ?_
        refine zV_iload_n d_Cp_loose_94 rfl ?_
        refine zV_istore_n (L' := [some (2, 0), some (0, c), some (0, (m9 52 2 + 2 * scS m9 52)), some (0, c)]) d_Cp_loose_95 (by decide) rfl ?_
        refine zV_iinc (L' := [some (2, 0), some (0, c), some (0, (m9 52 2 + 2 * scS m9 52)), some (0, (c + 1))]) d_Cp_loose_96 (by decide) rfl rfl ?_
        refine zV_goto d_Cp_loose_99 ?_
        refine ih _ (by omega) (c + 1) m9 _ _ rfl (by omega) hL9 ?_ (by omega)
        rw [← i2, zfo_s (n := mem 3 1) (i := c) (by omega)]
        unfold loF
        first | rw [if_pos (show cnR (roV mem c) 0 < fw by omega), hcn] | rw [if_neg (show ¬ cnR (roV mem c) 0 < fw by omega)]
theorem s_Cp_loose (mem : zMem) (hK : rwK mem 3) (hI : okI mem 52) : zF m_Cp_loose [(2, 0)] mem (fun r m => (mem 3 1 = 0 ∧ r = some (0, -103) ∧ m = mem) ∨ (mem 3 1 = 1 ∧ r = some (0, -1) ∧ m = mem) ∨ (1 < mem 3 1 ∧ LW mem m ∧ r = some (0, (zfo (loF mem) (mem 3 1 - 0).toNat 0 (-1, 226)).1))) := by
  have k1 := hK.1
  refine zF_of (by decide) (Nat.le_of_ble_eq_true rfl) ?_
  show zS zT m_Cp_loose (0, 0) 0 [some (2, 0), none, none, none] [] mem _
  refine zV_aload_n d_Cp_loose_0 rfl ?_
  refine zS_getr (r := 3) d_Cp_loose_1 f_Cp_19 rfl rfl rfl ?_
  refine zS_get d_Cp_loose_4 f_Cp_106 rfl rfl ?_
  refine zV_if_ne d_Cp_loose_7 (by omega) (fun c7 => ?_) (fun c7 => ?_)
  · refine zV_aload_n d_Cp_loose_13 rfl ?_
    refine zS_getr (r := 3) d_Cp_loose_14 f_Cp_19 rfl rfl rfl ?_
    refine zS_get d_Cp_loose_17 f_Cp_106 rfl rfl ?_
    refine zV_iconst d_Cp_loose_20 ?_
    refine zV_icmp_ne d_Cp_loose_21 (by omega) (by omega) (fun c21 => ?_) (fun c21 => ?_)
    · refine zV_iconst d_Cp_loose_26 ?_
      refine zV_istore_n (L' := [some (2, 0), some (0, (-1)), none, none]) d_Cp_loose_27 (by decide) rfl ?_
      refine zV_sipush d_Cp_loose_28 ?_
      refine zV_istore_n (L' := [some (2, 0), some (0, (-1)), some (0, 226), none]) d_Cp_loose_31 (by decide) rfl ?_
      refine zV_iconst d_Cp_loose_32 ?_
      refine zV_istore_n (L' := [some (2, 0), some (0, (-1)), some (0, 226), some (0, 0)]) d_Cp_loose_33 (by decide) rfl ?_
      refine zS_mono ?_ (s_Cp_loose_l mem hK _ 0 mem (-1) 226 ⟨by omega, by omega⟩ ⟨fun _ _ => rfl, hI⟩ rfl ⟨by omega, by omega⟩)
      intro r m hq
      exact Or.inr (Or.inr ⟨by omega, hq.1, hq.2⟩)
    · refine zV_iconst d_Cp_loose_24 ?_
      exact zS_iret d_Cp_loose_25 rfl ⟨Nat.zero_le _, Nat.zero_le _⟩ (Or.inr (Or.inl ⟨by omega, rfl, rfl⟩))
  · refine zV_bipush d_Cp_loose_10 ?_
    exact zS_iret d_Cp_loose_12 rfl ⟨Nat.zero_le _, Nat.zero_le _⟩ (Or.inl ⟨by omega, rfl, rfl⟩)
