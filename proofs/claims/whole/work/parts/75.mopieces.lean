/-! the reference: how many pieces; which curve is loose -/
def HM (b : zMem) (mo f x : Int) : Prop := hoM b mo f (x / 9) (x % 9)
theorem HM_e {b : zMem} {mo f n j : Int} (hj : 0 ≤ j ∧ j ≤ 8) : HM b mo f (9 * n + j) ↔ hoM b mo f n j := by
  unfold HM
  rw [show (9 * n + j) / 9 = n by omega, show (9 * n + j) % 9 = j by omega]
def INp (b : zMem) (H : Int → Prop) (n j : Int) (m : zMem) : Prop := rdP b m ∧ ∀ x, inP (vM b) 0 n j x → m 93 x = cif (H x) x (-1)
theorem INp_s {b m : zMem} {H : Int → Prop} {n j : Int} (hL : okL b) (h : INp b H n j m) (hc : inC b n j) : INp b H n (j + 1) (zup m 93 (9 * n + j) (cif (H (9 * n + j)) (9 * n + j) (-1))) := by
  obtain ⟨h1, h2⟩ := h
  have hx := inP_nx (mem := vM b) (t := 0) (a := n) (b := j) (vM_T hL) (by rw [vM_2]; exact hc.1) (by rw [vM_t hc.1]; exact hc.2)
  refine ⟨fun a q => by rw [zup_a q]; exact h1 a q, fun x q => ?_⟩
  by_cases e : x = 9 * n + j
  · rw [e, zup_s]
  · rw [zup_k e]
    exact h2 x (((hx x).mp q).resolve_right e)
theorem INp_u {b m : zMem} {H : Int → Prop} {n j : Int} (hn : 0 ≤ n ∧ n < b 80 15) (hj : 2 * b 91 n < j) (h : INp b H n j m) : INp b H (n + 1) 0 m := by
  unfold INp
  rw [← inP_up (mem := vM b) (t := 0) (a := n) (b := j) (by rw [vM_2]; exact hn) (by rw [vM_t hn]; exact hj)]
  exact h
theorem INp_f {b m : zMem} {H : Int → Prop} {n : Int} (hn : b 80 15 ≤ n) (h : INp b H n 0 m) : SPI b H m := by
  obtain ⟨h1, h2⟩ := h
  rw [inP_all (mem := vM b) (t := 0) (by rw [vM_2]; exact hn)] at h2
  refine ⟨h1, fun x hx => ?_⟩
  have e := h2 x hx
  rcases Classical.em (H x) with c | c
  · rw [cif_t c] at e
    rw [e]
    obtain ⟨s, j, a1, a2, a3, a4, a5⟩ := id hx
    exact Or.inr ⟨c, by omega, by omega, hx, c, fun _ _ => rfl⟩
  · rw [cif_f c] at e
    exact Or.inl ⟨e, c⟩
theorem cnt_nx {b : zMem} {n j : Int} {ρ : Int → Int} (hL : okL b) (hc : inC b n j) : cntR (inP (vM b) 0 n (j + 1)) ρ = cntR (inP (vM b) 0 n j) ρ + zb (ρ (9 * n + j) = 9 * n + j) := by
  have hT := vM_T hL
  have ha : 0 ≤ n ∧ n < vM b 0 2 := by rw [vM_2]; exact hc.1
  have hb : 0 ≤ j ∧ j ≤ vM b (0 + 2) n := by rw [vM_t hc.1]; exact hc.2
  have hno := inP_no hT ha hb
  have hnx := inP_nx hT ha hb
  have h8 := inC_8 hL hc
  have h7 := hc.1
  have h6 := hc.2
  unfold cntR
  rw [zsm_one (f := fun x => zb (inP (vM b) 0 n (j + 1) x ∧ ρ x = x)) (g := fun x => zb (inP (vM b) 0 n j x ∧ ρ x = x)) (M := 9 * n + j) 225 0 ?_, if_pos (by omega)]
  · show _ + (zb _ - zb _) = _
    rw [zb_f (show ¬ (inP (vM b) 0 n j (9 * n + j) ∧ ρ (9 * n + j) = 9 * n + j) from fun z => hno z.1), zb_iff (show (inP (vM b) 0 n (j + 1) (9 * n + j) ∧ ρ (9 * n + j) = 9 * n + j) ↔ (ρ (9 * n + j) = 9 * n + j) from ⟨fun z => z.2, fun z => ⟨(hnx _).mpr (Or.inr rfl), z⟩⟩)]
    omega
  · intro x hx
    show zb _ = zb _
    apply zb_iff
    rw [hnx]
    exact ⟨fun z => ⟨z.1.resolve_right hx, z.2⟩, fun z => ⟨Or.inl z.1, z.2⟩⟩
theorem cnt_0 {b : zMem} {ρ : Int → Int} : cntR (inP (vM b) 0 0 0) ρ = 0 := by
  unfold cntR
  exact zsm_0 (fun x => zb_f (fun z => inP_0 z.1)) _ _
def NMm (b : zMem) (H : Int → Prop) (m : zMem) (n : Int) : Prop := SPI b H m ∧ AF9 b m ∧ n = cntR (inD (vM b) 0) (m 93)
theorem s_Mo_piecesOf_17 (b : zMem) (hL : okL b) (mo f : Int) (hmo : I32 mo) (hf : 0 ≤ f ∧ f < 2147483648) (n : Int) (hn : 0 ≤ n ∧ n < b 80 15) (Q9 : zQ2) (kk : ∀ m, INp b (HM b mo f) (n + 1) 0 m → zS zT m_Mo_piecesOf (0, 0) 68 [some (2, 80), some (0, mo), some (0, f), some (0, n), none, none, none] [] m (zQs Q9)) : ∀ (j : Int) (m : zMem), (0 ≤ j ∧ j ≤ 2 * b 91 n + 1) → (INp b (HM b mo f) n j m) → zS zT m_Mo_piecesOf (0, 0) 17 [some (2, 80), some (0, mo), some (0, f), some (0, n), some (0, j), none, none] [] m (zQs (Q9)) := by
  intro j m
  obtain ⟨k9, hk9⟩ : ∃ kq : Nat, (2 * b 91 n + 1 - j).toNat = kq := ⟨_, rfl⟩
  induction k9 using Nat.strongRecOn generalizing j m with
  | _ k9 ih =>
    intro i0 i1
    have b1 := hL.2.2.1.1
    have s1 := hL.2.2.2.1 n hn.1 hn.2
    refine zV_iload d_Mo_piecesOf_17 rfl ?_
    refine zV_aload_n d_Mo_piecesOf_19 rfl ?_
    refine zV_iload_n d_Mo_piecesOf_20 rfl ?_
    refine zS_invvE (mt' := m_Mo_cellsIn) (avs := [(0, n)]) (st := [(0, j)]) d_Mo_piecesOf_21 l_Mo_210 k_Mo_cellsIn rfl rfl rfl rfl rfl (e_cin (n := n) i1.1 (by omega)) ?_
    show zS zT m_Mo_piecesOf (0, 0) 24 [some (2, 80), some (0, mo), some (0, f), some (0, n), some (0, j), none, none] [(0, (2 * b 91 n + 1)), (0, j)] m _
    refine zV_icmp_ge d_Mo_piecesOf_24 (by omega) (by omega) (fun c24 => ?_) (fun c24 => ?_)
    · refine zV_forget (L' := [some (2, 80), some (0, mo), some (0, f), some (0, n), none, none, none]) (by simp [zle]) ?_
      exact kk m (INp_u hn (by omega) i1)
    · refine zV_aload_n d_Mo_piecesOf_27 rfl ?_
      refine zS_getr (r := 93) d_Mo_piecesOf_28 f_Mo_47 rfl rfl rfl ?_
      refine zV_bipush d_Mo_piecesOf_31 ?_
      refine zV_iload_n d_Mo_piecesOf_33 rfl ?_
      refine zV_imul d_Mo_piecesOf_34 ?_
      refine zV_iload d_Mo_piecesOf_35 rfl ?_
      refine zV_iadd d_Mo_piecesOf_37 ?_
      refine zV_aload_n d_Mo_piecesOf_38 rfl ?_
      refine zV_iload_n d_Mo_piecesOf_39 rfl ?_
      refine zV_iload_n d_Mo_piecesOf_40 rfl ?_
      refine zV_iload_n d_Mo_piecesOf_41 rfl ?_
      refine zV_iload d_Mo_piecesOf_42 rfl ?_
      refine zS_invvE (mt' := m_Mo_holds) (avs := [(0, mo), (0, f), (0, n), (0, j)]) (st := [(0, ((9 * n) + j)), (2, 93)]) d_Mo_piecesOf_44 l_Mo_251 k_Mo_holds rfl rfl rfl rfl rfl (e_hold (mo := mo) (f := f) (n := n) (j := j) i1.1 hL hmo hf (by omega) (by omega)) ?_
      show zS zT m_Mo_piecesOf (0, 0) 47 [some (2, 80), some (0, mo), some (0, f), some (0, n), some (0, j), none, none] [(0, (zb (hoM b mo f n j))), (0, ((9 * n) + j)), (2, 93)] m _
      refine zV_ifb_eq d_Mo_piecesOf_47 (fun c47 => ?_) (fun c47 => ?_)
      · refine zV_iconst d_Mo_piecesOf_60 ?_
        refine zS_iast d_Mo_piecesOf_61 rfl rfl ⟨by omega, by omega⟩ ?_
        refine zV_iinc (L' := [some (2, 80), some (0, mo), some (0, f), some (0, n), some (0, (j + 1)), none, none]) d_Mo_piecesOf_62 (by decide) rfl rfl ?_
        refine zV_goto d_Mo_piecesOf_65 ?_
        have hc : inC b n j := ⟨hn, i0.1, by omega⟩
        have ev : cif ((HM b mo f) (9 * n + j)) (9 * n + j) (-1) = (-1) := by first | rw [cif_t ((HM_e (by omega)).mpr (by assumption))] | rw [cif_f (fun z => absurd ((HM_e (by omega)).mp z) (by assumption))]
        refine ih _ (by omega) (j + 1) _ rfl (by omega) ?_
        have z9 := INp_s hL i1 hc
        rw [ev] at z9
        exact z9
      · refine zV_bipush d_Mo_piecesOf_50 ?_
        refine zV_iload_n d_Mo_piecesOf_52 rfl ?_
        refine zV_imul d_Mo_piecesOf_53 ?_
        refine zV_iload d_Mo_piecesOf_54 rfl ?_
        refine zV_iadd d_Mo_piecesOf_56 ?_
        refine zV_goto d_Mo_piecesOf_57 ?_
        refine zS_iast d_Mo_piecesOf_61 rfl rfl ⟨by omega, by omega⟩ ?_
        refine zV_iinc (L' := [some (2, 80), some (0, mo), some (0, f), some (0, n), some (0, (j + 1)), none, none]) d_Mo_piecesOf_62 (by decide) rfl rfl ?_
        refine zV_goto d_Mo_piecesOf_65 ?_
        have hc : inC b n j := ⟨hn, i0.1, by omega⟩
        have ev : cif ((HM b mo f) (9 * n + j)) (9 * n + j) (-1) = ((9 * n) + j) := by first | rw [cif_t ((HM_e (by omega)).mpr (by assumption))] | rw [cif_f (fun z => absurd ((HM_e (by omega)).mp z) (by assumption))]
        refine ih _ (by omega) (j + 1) _ rfl (by omega) ?_
        have z9 := INp_s hL i1 hc
        rw [ev] at z9
        exact z9
theorem s_Mo_piecesOf_68 (mem : zMem) (mo f n : Int) (hn : 0 ≤ n ∧ n < 40) (Q9 : zQ2) (kk : zS zT m_Mo_piecesOf (0, 0) 6 [some (2, 80), some (0, mo), some (0, f), some (0, (n + 1)), none, none, none] [] mem (zQs Q9)) : zS zT m_Mo_piecesOf (0, 0) 68 [some (2, 80), some (0, mo), some (0, f), some (0, n), none, none, none] [] mem (zQs Q9) := by
  refine zV_iinc (L' := [some (2, 80), some (0, mo), some (0, f), some (0, (n + 1)), none, none, none]) d_Mo_piecesOf_68 (by decide) rfl rfl ?_
  refine zV_goto d_Mo_piecesOf_71 ?_
  exact kk
theorem s_Mo_piecesOf_106 (b : zMem) (hL : okL b) (mo f : Int) (hmo : I32 mo) (hf : 0 ≤ f ∧ f < 2147483648) (m : zMem) (hR : rdP b m) (hS : SPI b (HM b mo f) m) (n : Int) (hn : 0 ≤ n ∧ n < b 80 15) (Q9 : zQ2) (kk : zS zT m_Mo_piecesOf (0, 0) 157 [some (2, 80), some (0, mo), some (0, f), none, some (0, (cntR (inP (vM b) 0 (n + 1) 0) (m 93))), some (0, n), none] [] m (zQs Q9)) : ∀ (j : Int), (0 ≤ j ∧ j ≤ 2 * b 91 n + 1) → zS zT m_Mo_piecesOf (0, 0) 106 [some (2, 80), some (0, mo), some (0, f), none, some (0, (cntR (inP (vM b) 0 n j) (m 93))), some (0, n), some (0, j)] [] m (zQs (Q9)) := by
  intro j
  obtain ⟨k9, hk9⟩ : ∃ kq : Nat, (2 * b 91 n + 1 - j).toNat = kq := ⟨_, rfl⟩
  induction k9 using Nat.strongRecOn generalizing j with
  | _ k9 ih =>
    intro i0
    have b1 := hL.2.2.1.1
    have s1 := hL.2.2.2.1 n hn.1 hn.2
    have hr : j ≤ 2 * b 91 n → -1 ≤ m 93 (9 * n + j) ∧ m 93 (9 * n + j) < 1000 := fun q => by
      have h8 := inC_8 hL (show inC b n j from ⟨hn, i0.1, q⟩)
      rcases hS.2 _ (inC_D (show inC b n j from ⟨hn, i0.1, q⟩)) with z | z
      · omega
      · have := z.2.1; have := z.2.2.1; omega
    refine zV_iload d_Mo_piecesOf_106 rfl ?_
    refine zV_aload_n d_Mo_piecesOf_108 rfl ?_
    refine zV_iload d_Mo_piecesOf_109 rfl ?_
    refine zS_invvE (mt' := m_Mo_cellsIn) (avs := [(0, n)]) (st := [(0, j)]) d_Mo_piecesOf_111 l_Mo_210 k_Mo_cellsIn rfl rfl rfl rfl rfl (e_cin (n := n) hR (by omega)) ?_
    show zS zT m_Mo_piecesOf (0, 0) 114 [some (2, 80), some (0, mo), some (0, f), none, some (0, (cntR (inP (vM b) 0 n j) (m 93))), some (0, n), some (0, j)] [(0, (2 * b 91 n + 1)), (0, j)] m _
    refine zV_icmp_ge d_Mo_piecesOf_114 (by omega) (by omega) (fun c114 => ?_) (fun c114 => ?_)
    · refine zV_forget (L' := [some (2, 80), some (0, mo), some (0, f), none, some (0, (cntR (inP (vM b) 0 n j) (m 93))), some (0, n), none]) (by simp [zle]) ?_
      rw [inP_up (mem := vM b) (t := 0) (a := n) (b := j) (by rw [vM_2]; exact hn) (by rw [vM_t hn]; omega)]
      exact kk
    · refine zV_iload d_Mo_piecesOf_117 rfl ?_
      refine zV_aload_n d_Mo_piecesOf_119 rfl ?_
      refine zS_getr (r := 93) d_Mo_piecesOf_120 f_Mo_47 rfl rfl rfl ?_
      refine zV_bipush d_Mo_piecesOf_123 ?_
      refine zV_iload d_Mo_piecesOf_125 rfl ?_
      refine zV_imul d_Mo_piecesOf_127 ?_
      refine zV_iload d_Mo_piecesOf_128 rfl ?_
      refine zV_iadd d_Mo_piecesOf_130 ?_
      refine zS_iald d_Mo_piecesOf_131 rfl rfl ⟨by omega, by omega⟩ ?_
      refine zV_bipush d_Mo_piecesOf_132 ?_
      refine zV_iload d_Mo_piecesOf_134 rfl ?_
      refine zV_imul d_Mo_piecesOf_136 ?_
      refine zV_iload d_Mo_piecesOf_137 rfl ?_
      refine zV_iadd d_Mo_piecesOf_139 ?_
      refine zV_icmp_ne d_Mo_piecesOf_140 (by omega) (by omega) (fun c140 => ?_) (fun c140 => ?_)
      · refine zV_iconst d_Mo_piecesOf_147 ?_
        refine zV_iadd d_Mo_piecesOf_148 ?_
        refine zV_istore (L' := [some (2, 80), some (0, mo), some (0, f), none, some (0, ((cntR (inP (vM b) 0 n j) (m 93)) + 0)), some (0, n), some (0, j)]) d_Mo_piecesOf_149 (by decide) rfl ?_
        refine zV_iinc (L' := [some (2, 80), some (0, mo), some (0, f), none, some (0, ((cntR (inP (vM b) 0 n j) (m 93)) + 0)), some (0, n), some (0, (j + 1))]) d_Mo_piecesOf_151 (by decide) rfl rfl ?_
        refine zV_goto d_Mo_piecesOf_154 ?_
        have hc : inC b n j := ⟨hn, i0.1, by omega⟩
        have ev : cntR (inP (vM b) 0 n (j + 1)) (m 93) = ((cntR (inP (vM b) 0 n j) (m 93)) + 0) := by rw [cnt_nx hL hc]; first | rw [zb_t (by omega)] | rw [zb_f (by omega)]
        rw [← ev]
        exact ih _ (by omega) (j + 1) rfl (by omega)
      · refine zV_iconst d_Mo_piecesOf_143 ?_
        refine zV_goto d_Mo_piecesOf_144 ?_
        refine zV_iadd d_Mo_piecesOf_148 ?_
        refine zV_istore (L' := [some (2, 80), some (0, mo), some (0, f), none, some (0, ((cntR (inP (vM b) 0 n j) (m 93)) + 1)), some (0, n), some (0, j)]) d_Mo_piecesOf_149 (by decide) rfl ?_
        refine zV_iinc (L' := [some (2, 80), some (0, mo), some (0, f), none, some (0, ((cntR (inP (vM b) 0 n j) (m 93)) + 1)), some (0, n), some (0, (j + 1))]) d_Mo_piecesOf_151 (by decide) rfl rfl ?_
        refine zV_goto d_Mo_piecesOf_154 ?_
        have hc : inC b n j := ⟨hn, i0.1, by omega⟩
        have ev : cntR (inP (vM b) 0 n (j + 1)) (m 93) = ((cntR (inP (vM b) 0 n j) (m 93)) + 1) := by rw [cnt_nx hL hc]; first | rw [zb_t (by omega)] | rw [zb_f (by omega)]
        rw [← ev]
        exact ih _ (by omega) (j + 1) rfl (by omega)
theorem s_Mo_piecesOf_157 (mem : zMem) (mo f many n : Int) (hn : 0 ≤ n ∧ n < 40) (Q9 : zQ2) (kk : zS zT m_Mo_piecesOf (0, 0) 94 [some (2, 80), some (0, mo), some (0, f), none, some (0, many), some (0, (n + 1)), none] [] mem (zQs Q9)) : zS zT m_Mo_piecesOf (0, 0) 157 [some (2, 80), some (0, mo), some (0, f), none, some (0, many), some (0, n), none] [] mem (zQs Q9) := by
  refine zV_iinc (L' := [some (2, 80), some (0, mo), some (0, f), none, some (0, many), some (0, (n + 1)), none]) d_Mo_piecesOf_157 (by decide) rfl rfl ?_
  refine zV_goto d_Mo_piecesOf_160 ?_
  exact kk
theorem s_Mo_piecesOf_94 (b : zMem) (hL : okL b) (mo f : Int) (hmo : I32 mo) (hf : 0 ≤ f ∧ f < 2147483648) (m : zMem) (hR : rdP b m) (hS : SPI b (HM b mo f) m) : ∀ (n : Int), (0 ≤ n ∧ n ≤ b 80 15) → zS zT m_Mo_piecesOf (0, 0) 94 [some (2, 80), some (0, mo), some (0, f), none, some (0, (cntR (inP (vM b) 0 n 0) (m 93))), some (0, n), none] [] m (zQs (fun r m9 => r = some (0, cntR (inD (vM b) 0) (m 93)) ∧ m9 = m)) := by
  intro n
  obtain ⟨k9, hk9⟩ : ∃ kq : Nat, (b 80 15 - n).toNat = kq := ⟨_, rfl⟩
  induction k9 using Nat.strongRecOn generalizing n with
  | _ k9 ih =>
    intro i0
    have b1 := hL.2.2.1.1
    have e80 : m 80 15 = b 80 15 := by rw [hR 80 (by decide)]
    refine zV_iload d_Mo_piecesOf_94 rfl ?_
    refine zV_aload_n d_Mo_piecesOf_96 rfl ?_
    refine zS_get d_Mo_piecesOf_97 f_Mo_184 rfl rfl ?_
    refine zV_icmp_ge d_Mo_piecesOf_100 (by omega) (by omega) (fun c100 => ?_) (fun c100 => ?_)
    · refine zV_iload d_Mo_piecesOf_163 rfl ?_
      exact zS_iret d_Mo_piecesOf_165 rfl ⟨Nat.zero_le _, Nat.zero_le _⟩ ⟨by rw [inP_all (mem := vM b) (t := 0) (a := n) (by rw [vM_2]; omega)], rfl⟩
    · refine zV_iconst d_Mo_piecesOf_103 ?_
      refine zV_istore (L' := [some (2, 80), some (0, mo), some (0, f), none, some (0, (cntR (inP (vM b) 0 n 0) (m 93))), some (0, n), some (0, 0)]) d_Mo_piecesOf_104 (by decide) rfl ?_
      refine s_Mo_piecesOf_106 b hL mo f hmo hf m hR hS n ⟨i0.1, by omega⟩ _ ?_ 0 (by have := hL.2.2.2.1 n i0.1 (by omega); omega)
      exact s_Mo_piecesOf_157 m mo f _ n (by omega) _ (ih _ (by omega) (n + 1) rfl (by omega))
theorem s_Mo_piecesOf_76z (b : zMem) (hL : okL b) (mo f : Int) (hmo : I32 mo) (hf : 0 ≤ f ∧ f < 2147483648) (m : zMem) (hS : SPI b (HM b mo f) m) (hA : AF9 b m) : zS zT m_Mo_piecesOf (0, 0) 76 [some (2, 80), some (0, mo), some (0, f), some (0, 0), none, none, none] [] m (zQs (fun r m => ∃ n, r = some (0, n) ∧ NMm b (HM b mo f) m n)) := by
  refine zV_iload_n d_Mo_piecesOf_76 rfl ?_
  refine zV_if_eq d_Mo_piecesOf_77 (by omega) (fun c77 => ?_) (fun c77 => absurd c77 (by omega))
  refine zV_iconst d_Mo_piecesOf_88 ?_
  refine zV_istore (L' := [some (2, 80), some (0, mo), some (0, f), some (0, 0), some (0, 0), none, none]) d_Mo_piecesOf_89 (by decide) rfl ?_
  refine zV_iconst d_Mo_piecesOf_91 ?_
  refine zV_istore (L' := [some (2, 80), some (0, mo), some (0, f), some (0, 0), some (0, 0), some (0, 0), none]) d_Mo_piecesOf_92 (by decide) rfl ?_
  refine zV_forget (L' := [some (2, 80), some (0, mo), some (0, f), none, some (0, 0), some (0, 0), none]) (by simp [zle]) ?_
  refine zS_mono ?_ (by have z := s_Mo_piecesOf_94 b hL mo f hmo hf m hS.1 hS 0 ⟨by omega, hL.2.2.1.1.1⟩; rw [cnt_0] at z; exact z)
  rintro r m9 ⟨rfl, rfl⟩
  exact ⟨_, rfl, hS, hA, rfl⟩
theorem s_Mo_piecesOf_76 (b : zMem) (hL : okL b) (mo f : Int) (hmo : I32 mo) (hf : 0 ≤ f ∧ f < 2147483648) : ∀ (m : zMem), (SPI b (HM b mo f) m) → zS zT m_Mo_piecesOf (0, 0) 76 [some (2, 80), some (0, mo), some (0, f), some (0, 1), none, none, none] [] m (zQs (fun r m => ∃ n, r = some (0, n) ∧ NMm b (HM b mo f) m n)) := by
  intro m
  obtain ⟨k9, hk9⟩ : ∃ kq : Nat, (Ph b m + 225).toNat = kq := ⟨_, rfl⟩
  induction k9 using Nat.strongRecOn generalizing m with
  | _ k9 ih =>
    intro i0
    refine zV_iload_n d_Mo_piecesOf_76 rfl ?_
    refine zV_if_eq d_Mo_piecesOf_77 (by omega) (fun c77 => absurd c77 (by omega)) (fun c77 => ?_)
    refine zV_aload_n d_Mo_piecesOf_80 rfl ?_
    refine zS_invv (mt' := m_Mo_isSpread) (avs := []) (st := []) d_Mo_piecesOf_81 l_Mo_266 k_Mo_isSpread rfl rfl rfl rfl rfl (s_Mo_isSpread b hL (HM b mo f) m i0) (fun r9 m5 hq9 => ?_)
    obtain ⟨x9, rfl, hx9, hS5, h50, h51⟩ := hq9
    show zS zT m_Mo_piecesOf (0, 0) 84 [some (2, 80), some (0, mo), some (0, f), some (0, 1), none, none, none] [(0, x9)] m5 _
    refine zV_istore_n (L' := [some (2, 80), some (0, mo), some (0, f), some (0, x9), none, none, none]) d_Mo_piecesOf_84 (by decide) rfl ?_
    refine zV_goto d_Mo_piecesOf_85 ?_
    have l1 := Ph_lo i0
    have l2 := Ph_lo hS5
    rcases hx9 with rfl | rfl
    · obtain ⟨e5, a5⟩ := h50 rfl
      rw [e5]
      exact s_Mo_piecesOf_76z b hL mo f hmo hf m i0 a5
    · have := h51 rfl
      exact ih _ (by omega) m5 rfl hS5
theorem s_Mo_piecesOf_6 (b : zMem) (hL : okL b) (mo f : Int) (hmo : I32 mo) (hf : 0 ≤ f ∧ f < 2147483648) : ∀ (n : Int) (m : zMem), (0 ≤ n ∧ n ≤ b 80 15) → (INp b (HM b mo f) n 0 m) → zS zT m_Mo_piecesOf (0, 0) 6 [some (2, 80), some (0, mo), some (0, f), some (0, n), none, none, none] [] m (zQs (fun r m => ∃ n, r = some (0, n) ∧ NMm b (HM b mo f) m n)) := by
  intro n m
  obtain ⟨k9, hk9⟩ : ∃ kq : Nat, (b 80 15 - n).toNat = kq := ⟨_, rfl⟩
  induction k9 using Nat.strongRecOn generalizing n m with
  | _ k9 ih =>
    intro i0 i1
    have b1 := hL.2.2.1.1
    have e80 : m 80 15 = b 80 15 := by rw [i1.1 80 (by decide)]
    refine zV_iload_n d_Mo_piecesOf_6 rfl ?_
    refine zV_aload_n d_Mo_piecesOf_7 rfl ?_
    refine zS_get d_Mo_piecesOf_8 f_Mo_184 rfl rfl ?_
    refine zV_icmp_ge d_Mo_piecesOf_11 (by omega) (by omega) (fun c11 => ?_) (fun c11 => ?_)
    · refine zV_iconst d_Mo_piecesOf_74 ?_
      refine zV_istore_n (L' := [some (2, 80), some (0, mo), some (0, f), some (0, 1), none, none, none]) d_Mo_piecesOf_75 (by decide) rfl ?_
      exact s_Mo_piecesOf_76 b hL mo f hmo hf m (INp_f (by omega) i1)
    · refine zV_iconst d_Mo_piecesOf_14 ?_
      refine zV_istore (L' := [some (2, 80), some (0, mo), some (0, f), some (0, n), some (0, 0), none, none]) d_Mo_piecesOf_15 (by decide) rfl ?_
      refine s_Mo_piecesOf_17 b hL mo f hmo hf n ⟨i0.1, by omega⟩ _ (fun m5 h5 => ?_) 0 m (by have := hL.2.2.2.1 n i0.1 (by omega); omega) i1
      exact s_Mo_piecesOf_68 m5 mo f n (by omega) _ (ih _ (by omega) (n + 1) m5 rfl (by omega) h5)
theorem s_Mo_piecesOf (mem : zMem) (mo f : Int) (hmo : I32 mo) (hf : 0 ≤ f ∧ f < 2147483648) (hK : moK mem) (hO : FRS mem) (hne : mem 80 2 ≠ 0) : zF m_Mo_piecesOf [(2, 80), (0, mo), (0, f)] mem (fun r m => ∃ m1 n, FRm mem m1 ∧ r = some (0, n) ∧ NMm m1 (HM m1 mo f) m n) := by
  refine zF_of (by decide) (Nat.le_of_ble_eq_true rfl) ?_
  show zS zT m_Mo_piecesOf (0, 0) 0 [some (2, 80), some (0, mo), some (0, f), none, none, none, none] [] mem _
  refine zV_aload_n d_Mo_piecesOf_0 rfl ?_
  refine zS_invv (mt' := m_Mo_freshen) (avs := []) (st := []) d_Mo_piecesOf_1 l_Mo_217 k_Mo_freshen rfl rfl rfl rfl rfl (s_Mo_freshen mem hK (FRS_T hO hne)) (fun r9 m1 hq9 => ?_)
  obtain ⟨rfl, hR⟩ := hq9
  show zS zT m_Mo_piecesOf (0, 0) 4 [some (2, 80), some (0, mo), some (0, f), none, none, none, none] [] m1 _
  refine zV_iconst d_Mo_piecesOf_4 ?_
  refine zV_istore_n (L' := [some (2, 80), some (0, mo), some (0, f), some (0, 0), none, none, none]) d_Mo_piecesOf_5 (by decide) rfl ?_
  have hL1 := ML_ok (FRm_K hR hK) hR.1
  refine zS_mono ?_ (s_Mo_piecesOf_6 m1 hL1 mo f hmo hf 0 m1 ⟨by omega, hL1.2.2.1.1.1⟩ ⟨fun _ _ => rfl, fun x hx => absurd hx inP_0⟩)
  rintro r m ⟨n, rfl, h9⟩
  exact ⟨m1, n, hR, rfl, h9⟩
theorem s_Mo_pieces (mem : zMem) (k f : Int) (hk : I32 k) (hf : I32 f) (hK : moK mem) (hO : FRS mem) : zF m_Mo_pieces [(2, 80), (0, k), (0, f)] mem (fun r m => (¬ ((0 ≤ k ∧ k ≤ 1) ∧ okF f) ∧ r = some (0, -102) ∧ m = mem) ∨ (((0 ≤ k ∧ k ≤ 1) ∧ okF f) ∧ mem 80 2 = 0 ∧ r = some (0, -103) ∧ m = mem) ∨ (((0 ≤ k ∧ k ≤ 1) ∧ okF f) ∧ mem 80 2 ≠ 0 ∧ ∃ m1 n, FRm mem m1 ∧ r = some (0, n) ∧ NMm m1 (HM m1 k f) m n)) := by
  have k1 := hK.1
  refine zF_of (by decide) (Nat.le_of_ble_eq_true rfl) ?_
  show zS zT m_Mo_pieces (0, 0) 0 [some (2, 80), some (0, k), some (0, f)] [] mem _
  refine zV_iload_n d_Mo_pieces_0 rfl ?_
  refine zV_i2l d_Mo_pieces_1 (by omega) ?_
  refine zV_lconst0 d_Mo_pieces_2 ?_
  refine zV_lconst1 d_Mo_pieces_3 ?_
  refine zS_invsE (mt' := m_Mo_in) (avs := [(1, k), (1, 0), (1, 1)]) (st := []) d_Mo_pieces_4 l_Mo_80 k_Mo_in rfl rfl rfl rfl (s_Mo_in mem k 0 1 (by omega) (by omega) (by omega)) ?_
  show zS zT m_Mo_pieces (0, 0) 7 [some (2, 80), some (0, k), some (0, f)] [(0, (zb (0 ≤ k ∧ k ≤ 1)))] mem _
  refine zV_ifb_eq d_Mo_pieces_7 (fun c7 => ?_) (fun c7 => ?_)
  · refine zV_bipush d_Mo_pieces_17 ?_
    exact zS_iret d_Mo_pieces_19 rfl ⟨Nat.zero_le _, Nat.zero_le _⟩ (Or.inl ⟨fun z => by first | exact absurd z.1 (by assumption) | exact absurd z.2 (by assumption), rfl, rfl⟩)
  · refine zV_iload_n d_Mo_pieces_10 rfl ?_
    refine zS_invsE (mt' := m_Mo_isForm) (avs := [(0, f)]) (st := []) d_Mo_pieces_11 l_Mo_254 k_Mo_isForm rfl rfl rfl rfl (s_Mo_isForm mem f (by omega)) ?_
    show zS zT m_Mo_pieces (0, 0) 14 [some (2, 80), some (0, k), some (0, f)] [(0, (zb (okF f)))] mem _
    refine zV_ifb_ne d_Mo_pieces_14 (fun c14 => ?_) (fun c14 => ?_)
    · refine zV_aload_n d_Mo_pieces_20 rfl ?_
      refine zS_invvE (mt' := m_Mo_lacks) (avs := []) (st := []) d_Mo_pieces_21 l_Mo_213 k_Mo_lacks rfl rfl rfl rfl rfl (s_Mo_lacks mem (by omega)) ?_
      show zS zT m_Mo_pieces (0, 0) 24 [some (2, 80), some (0, k), some (0, f)] [(0, (zb (mem 80 2 = 0)))] mem _
      refine zV_ifb_eq d_Mo_pieces_24 (fun c24 => ?_) (fun c24 => ?_)
      · refine zV_aload_n d_Mo_pieces_32 rfl ?_
        refine zV_iload_n d_Mo_pieces_33 rfl ?_
        refine zV_iload_n d_Mo_pieces_34 rfl ?_
        refine zS_invv (mt' := m_Mo_piecesOf) (avs := [(0, k), (0, f)]) (st := []) d_Mo_pieces_35 l_Mo_269 k_Mo_piecesOf rfl rfl rfl rfl rfl (s_Mo_piecesOf mem k f hk (by have := okF_r (f := f) (by assumption); omega) hK hO (by assumption)) (fun r9 m5 hq9 => ?_)
        obtain ⟨m1, n9, hR9, rfl, hN9⟩ := hq9
        show zS zT m_Mo_pieces (0, 0) 38 [some (2, 80), some (0, k), some (0, f)] [(0, n9)] m5 _
        exact zS_iret d_Mo_pieces_38 rfl ⟨Nat.zero_le _, Nat.zero_le _⟩ (Or.inr (Or.inr ⟨⟨by assumption, by assumption⟩, by assumption, m1, n9, hR9, rfl, hN9⟩))
      · refine zV_bipush d_Mo_pieces_27 ?_
        refine zV_goto d_Mo_pieces_29 ?_
        exact zS_iret d_Mo_pieces_38 rfl ⟨Nat.zero_le _, Nat.zero_le _⟩ (Or.inr (Or.inl ⟨⟨by assumption, by assumption⟩, by assumption, rfl, rfl⟩))
    · refine zV_bipush d_Mo_pieces_17 ?_
      exact zS_iret d_Mo_pieces_19 rfl ⟨Nat.zero_le _, Nat.zero_le _⟩ (Or.inl ⟨fun z => by first | exact absurd z.1 (by assumption) | exact absurd z.2 (by assumption), rfl, rfl⟩)
def lsF (cv : Int → Int) (k : Int) (s : Int × Int) : Int × Int := if s.1 = -1 ∨ cv k < s.2 then (k, cv k) else s
theorem clA_r {m : zMem} (hL : okL m) : 0 ≤ clA m ∧ clA m ≤ 225 := by
  have b1 := hL.2.2.1.1
  have := zsm_b (f := fun n => 2 * m 91 n + 1) (B := 9) (m 80 15 - 0).toNat 0 (fun j q1 q2 => by have := hL.2.2.2.1 j q1 (by omega); show 0 ≤ 2 * m 91 j + 1 ∧ 2 * m 91 j + 1 ≤ 9; omega)
  unfold clA
  omega
theorem frL_t {a b c : zMem} (h : frL a b) (h' : frL b c) : frL a c := ⟨fun x q1 q2 => (h'.1 x q1 q2).trans (h.1 x q1 q2), fun k q1 q2 => (h'.2 k q1 q2).trans (h.2 k q1 q2)⟩
theorem frL_K {mem m : zMem} (h : frL mem m) (hK : moK mem) : moK m := by
  unfold moK
  rw [h.1 82 (by decide) (by omega), h.1 83 (by decide) (by omega), h.1 84 (by decide) (by omega), h.2 2 (by decide) (by decide)]
  exact hK
theorem frL_A {mem m : zMem} (h : frL mem m) (out : Int) : lpA m out = lpA mem out := lpA_cg (h.1 82 (by decide) (by omega)) (h.1 83 (by decide) (by omega)) (h.1 84 (by decide) (by omega)) (h.2 2 (by decide) (by decide)) out
theorem s_Mo_loose_l (mem : zMem) (hK : moK mem) (cv : Int → Int) (hcv : ∀ k m, 0 ≤ k → k < mem 80 2 → frL mem m → ML m k (lpA mem k) → clA m = cv k) (q : Int × Int) (h2 : 1 < mem 80 2) : ∀ (k : Int) (m : zMem) (bs : Int) (ls : Int), (0 ≤ k ∧ k ≤ mem 80 2) → (frL mem m) → (zfo (lsF cv) (mem 80 2 - k).toNat k (bs, ls) = q) → ((-1 ≤ bs ∧ bs < k) ∧ 0 ≤ ls ∧ ls ≤ 225) → zS zT m_Mo_loose (0, 0) 16 [some (2, 80), some (0, bs), some (0, ls), some (0, k)] [] m (zQs (fun r m => r = some (0, q.1) ∧ ∃ m1, frL mem m1 ∧ m = zup m1 80 9 1)) := by
  intro k m bs ls
  obtain ⟨k9, hk9⟩ : ∃ kq : Nat, (mem 80 2 - k).toNat = kq := ⟨_, rfl⟩
  induction k9 using Nat.strongRecOn generalizing k m bs ls with
  | _ k9 ih =>
    intro i0 i1 i2 i3
    have k1 := hK.1
    have e2 : m 80 2 = mem 80 2 := i1.2 2 (by decide) (by decide)
    refine zV_iload_n d_Mo_loose_16 rfl ?_
    refine zV_aload_n d_Mo_loose_17 rfl ?_
    refine zS_get d_Mo_loose_18 f_Mo_103 rfl rfl ?_
    refine zV_icmp_ge d_Mo_loose_21 (by omega) (by omega) (fun c21 => ?_) (fun c21 => ?_)
    · refine zV_aload_n d_Mo_loose_76 rfl ?_
      refine zV_iconst d_Mo_loose_77 ?_
      refine zS_putz d_Mo_loose_78 f_Mo_119 rfl ⟨rfl, rfl⟩ rfl (Or.inr rfl) ?_
      refine zV_iload_n d_Mo_loose_81 rfl ?_
      exact zS_iret d_Mo_loose_82 rfl ⟨Nat.zero_le _, Nat.zero_le _⟩ (by first | (exfalso; omega) | exact ⟨by rw [← i2, zfo_e (n := mem 80 2) (by omega)], m, i1, rfl⟩)
    · refine zV_aload_n d_Mo_loose_24 rfl ?_
      refine zS_get d_Mo_loose_25 f_Mo_103 rfl rfl ?_
      refine zV_iconst d_Mo_loose_28 ?_
      refine zV_icmp_le d_Mo_loose_29 (by omega) (by omega) (fun c29 => ?_) (fun c29 => ?_)
      · refine zV_aload_n d_Mo_loose_76 rfl ?_
        refine zV_iconst d_Mo_loose_77 ?_
        refine zS_putz d_Mo_loose_78 f_Mo_119 rfl ⟨rfl, rfl⟩ rfl (Or.inr rfl) ?_
        refine zV_iload_n d_Mo_loose_81 rfl ?_
        exact zS_iret d_Mo_loose_82 rfl ⟨Nat.zero_le _, Nat.zero_le _⟩ (by first | (exfalso; omega) | exact ⟨by rw [← i2, zfo_e (n := mem 80 2) (by omega)], m, i1, rfl⟩)
      · refine zV_aload_n d_Mo_loose_32 rfl ?_
        refine zV_iload_n d_Mo_loose_33 rfl ?_
        refine zS_invv (mt' := m_Mo_layAll) (avs := [(0, k)]) (st := []) d_Mo_loose_34 l_Mo_207 k_Mo_layAll rfl rfl rfl rfl rfl (s_Mo_layAll m k (by omega) (frL_K i1 hK)) (fun r9 m5 hq9 => ?_)
        obtain ⟨rfl, hM5, hF5⟩ := hq9
        have hf5 := frL_t i1 hF5
        rw [frL_A i1] at hM5
        have hL5 := ML_ok (frL_K hf5 hK) hM5
        have ec := hcv k m5 i0.1 (by omega) hf5 hM5
        have er := clA_r hL5
        show zS zT m_Mo_loose (0, 0) 37 [some (2, 80), some (0, bs), some (0, ls), some (0, k)] [] m5 _
        refine zV_iload_n d_Mo_loose_37 rfl ?_
        refine zV_iconst d_Mo_loose_38 ?_
        refine zV_icmp_eq d_Mo_loose_39 (by omega) (by omega) (fun c39 => ?_) (fun c39 => ?_)
        · refine zV_iload_n d_Mo_loose_50 rfl ?_
          refine zV_goto d_Mo_loose_51 ?_
          refine zV_istore_n (L' := [some (2, 80), some (0, k), some (0, ls), some (0, k)]) d_Mo_loose_55 (by decide) rfl ?_
          refine zV_iload_n d_Mo_loose_56 rfl ?_
          refine zV_iload_n d_Mo_loose_57 rfl ?_
          refine zV_icmp_ne d_Mo_loose_58 (by omega) (by omega) (fun c58 => ?_) (fun c58 => ?_)
          · refine zV_iload_n d_Mo_loose_68 rfl ?_
            refine zV_istore_n (L' := [some (2, 80), some (0, k), some (0, ls), some (0, k)]) d_Mo_loose_69 (by decide) rfl ?_
            refine zV_iinc (L' := [some (2, 80), some (0, k), some (0, ls), some (0, (k + 1))]) d_Mo_loose_70 (by decide) rfl rfl ?_
            refine zV_goto d_Mo_loose_73 ?_
            first | (exfalso; omega) | (refine ih _ (by omega) (k + 1) m5 _ _ rfl (by omega) hf5 ?_ (by omega); rw [← i2, zfo_s (n := mem 80 2) (i := k) (by omega)]; congr 1; unfold lsF; first | (rw [if_pos (show (bs, ls).1 = -1 ∨ cv k < (bs, ls).2 by first | (left; assumption) | (right; show cv k < ls; omega)), ec]) | rw [if_neg (show ¬ ((bs, ls).1 = -1 ∨ cv k < (bs, ls).2) from fun z => by rcases z with z | z; (exact absurd z (by assumption)); (have z2 : cv k < ls := z; omega))])
          · refine zV_aload_n d_Mo_loose_61 rfl ?_
            refine zS_invvE (mt' := m_Mo_cellsAll) (avs := []) (st := []) d_Mo_loose_62 l_Mo_272 k_Mo_cellsAll rfl rfl rfl rfl rfl (s_Mo_cellsAll m5 hL5.2.2.1.1) ?_
            show zS zT m_Mo_loose (0, 0) 65 [some (2, 80), some (0, k), some (0, ls), some (0, k)] [(0, (clA m5))] m5 _
            refine zV_goto d_Mo_loose_65 ?_
            refine zV_istore_n (L' := [some (2, 80), some (0, k), some (0, (clA m5)), some (0, k)]) d_Mo_loose_69 (by decide) rfl ?_
            refine zV_iinc (L' := [some (2, 80), some (0, k), some (0, (clA m5)), some (0, (k + 1))]) d_Mo_loose_70 (by decide) rfl rfl ?_
            refine zV_goto d_Mo_loose_73 ?_
            first | (exfalso; omega) | (refine ih _ (by omega) (k + 1) m5 _ _ rfl (by omega) hf5 ?_ (by omega); rw [← i2, zfo_s (n := mem 80 2) (i := k) (by omega)]; congr 1; unfold lsF; first | (rw [if_pos (show (bs, ls).1 = -1 ∨ cv k < (bs, ls).2 by first | (left; assumption) | (right; show cv k < ls; omega)), ec]) | rw [if_neg (show ¬ ((bs, ls).1 = -1 ∨ cv k < (bs, ls).2) from fun z => by rcases z with z | z; (exact absurd z (by assumption)); (have z2 : cv k < ls := z; omega))])
        · refine zV_aload_n d_Mo_loose_42 rfl ?_
          refine zS_invvE (mt' := m_Mo_cellsAll) (avs := []) (st := []) d_Mo_loose_43 l_Mo_272 k_Mo_cellsAll rfl rfl rfl rfl rfl (s_Mo_cellsAll m5 hL5.2.2.1.1) ?_
          show zS zT m_Mo_loose (0, 0) 46 [some (2, 80), some (0, bs), some (0, ls), some (0, k)] [(0, (clA m5))] m5 _
          refine zV_iload_n d_Mo_loose_46 rfl ?_
          refine zV_icmp_ge d_Mo_loose_47 (by omega) (by omega) (fun c47 => ?_) (fun c47 => ?_)
          · refine zV_iload_n d_Mo_loose_54 rfl ?_
            refine zV_istore_n (L' := [some (2, 80), some (0, bs), some (0, ls), some (0, k)]) d_Mo_loose_55 (by decide) rfl ?_
            refine zV_iload_n d_Mo_loose_56 rfl ?_
            refine zV_iload_n d_Mo_loose_57 rfl ?_
            refine zV_icmp_ne d_Mo_loose_58 (by omega) (by omega) (fun c58 => ?_) (fun c58 => ?_)
            · refine zV_iload_n d_Mo_loose_68 rfl ?_
              refine zV_istore_n (L' := [some (2, 80), some (0, bs), some (0, ls), some (0, k)]) d_Mo_loose_69 (by decide) rfl ?_
              refine zV_iinc (L' := [some (2, 80), some (0, bs), some (0, ls), some (0, (k + 1))]) d_Mo_loose_70 (by decide) rfl rfl ?_
              refine zV_goto d_Mo_loose_73 ?_
              first | (exfalso; omega) | (refine ih _ (by omega) (k + 1) m5 _ _ rfl (by omega) hf5 ?_ (by omega); rw [← i2, zfo_s (n := mem 80 2) (i := k) (by omega)]; congr 1; unfold lsF; first | (rw [if_pos (show (bs, ls).1 = -1 ∨ cv k < (bs, ls).2 by first | (left; assumption) | (right; show cv k < ls; omega)), ec]) | rw [if_neg (show ¬ ((bs, ls).1 = -1 ∨ cv k < (bs, ls).2) from fun z => by rcases z with z | z; (exact absurd z (by assumption)); (have z2 : cv k < ls := z; omega))])
            · refine zV_aload_n d_Mo_loose_61 rfl ?_
              refine zS_invvE (mt' := m_Mo_cellsAll) (avs := []) (st := []) d_Mo_loose_62 l_Mo_272 k_Mo_cellsAll rfl rfl rfl rfl rfl (s_Mo_cellsAll m5 hL5.2.2.1.1) ?_
              show zS zT m_Mo_loose (0, 0) 65 [some (2, 80), some (0, bs), some (0, ls), some (0, k)] [(0, (clA m5))] m5 _
              refine zV_goto d_Mo_loose_65 ?_
              refine zV_istore_n (L' := [some (2, 80), some (0, bs), some (0, (clA m5)), some (0, k)]) d_Mo_loose_69 (by decide) rfl ?_
              refine zV_iinc (L' := [some (2, 80), some (0, bs), some (0, (clA m5)), some (0, (k + 1))]) d_Mo_loose_70 (by decide) rfl rfl ?_
              refine zV_goto d_Mo_loose_73 ?_
              first | (exfalso; omega) | (refine ih _ (by omega) (k + 1) m5 _ _ rfl (by omega) hf5 ?_ (by omega); rw [← i2, zfo_s (n := mem 80 2) (i := k) (by omega)]; congr 1; unfold lsF; first | (rw [if_pos (show (bs, ls).1 = -1 ∨ cv k < (bs, ls).2 by first | (left; assumption) | (right; show cv k < ls; omega)), ec]) | rw [if_neg (show ¬ ((bs, ls).1 = -1 ∨ cv k < (bs, ls).2) from fun z => by rcases z with z | z; (exact absurd z (by assumption)); (have z2 : cv k < ls := z; omega))])
          · refine zV_iload_n d_Mo_loose_50 rfl ?_
            refine zV_goto d_Mo_loose_51 ?_
            refine zV_istore_n (L' := [some (2, 80), some (0, k), some (0, ls), some (0, k)]) d_Mo_loose_55 (by decide) rfl ?_
            refine zV_iload_n d_Mo_loose_56 rfl ?_
            refine zV_iload_n d_Mo_loose_57 rfl ?_
            refine zV_icmp_ne d_Mo_loose_58 (by omega) (by omega) (fun c58 => ?_) (fun c58 => ?_)
            · refine zV_iload_n d_Mo_loose_68 rfl ?_
              refine zV_istore_n (L' := [some (2, 80), some (0, k), some (0, ls), some (0, k)]) d_Mo_loose_69 (by decide) rfl ?_
              refine zV_iinc (L' := [some (2, 80), some (0, k), some (0, ls), some (0, (k + 1))]) d_Mo_loose_70 (by decide) rfl rfl ?_
              refine zV_goto d_Mo_loose_73 ?_
              first | (exfalso; omega) | (refine ih _ (by omega) (k + 1) m5 _ _ rfl (by omega) hf5 ?_ (by omega); rw [← i2, zfo_s (n := mem 80 2) (i := k) (by omega)]; congr 1; unfold lsF; first | (rw [if_pos (show (bs, ls).1 = -1 ∨ cv k < (bs, ls).2 by first | (left; assumption) | (right; show cv k < ls; omega)), ec]) | rw [if_neg (show ¬ ((bs, ls).1 = -1 ∨ cv k < (bs, ls).2) from fun z => by rcases z with z | z; (exact absurd z (by assumption)); (have z2 : cv k < ls := z; omega))])
            · refine zV_aload_n d_Mo_loose_61 rfl ?_
              refine zS_invvE (mt' := m_Mo_cellsAll) (avs := []) (st := []) d_Mo_loose_62 l_Mo_272 k_Mo_cellsAll rfl rfl rfl rfl rfl (s_Mo_cellsAll m5 hL5.2.2.1.1) ?_
              show zS zT m_Mo_loose (0, 0) 65 [some (2, 80), some (0, k), some (0, ls), some (0, k)] [(0, (clA m5))] m5 _
              refine zV_goto d_Mo_loose_65 ?_
              refine zV_istore_n (L' := [some (2, 80), some (0, k), some (0, (clA m5)), some (0, k)]) d_Mo_loose_69 (by decide) rfl ?_
              refine zV_iinc (L' := [some (2, 80), some (0, k), some (0, (clA m5)), some (0, (k + 1))]) d_Mo_loose_70 (by decide) rfl rfl ?_
              refine zV_goto d_Mo_loose_73 ?_
              first | (exfalso; omega) | (refine ih _ (by omega) (k + 1) m5 _ _ rfl (by omega) hf5 ?_ (by omega); rw [← i2, zfo_s (n := mem 80 2) (i := k) (by omega)]; congr 1; unfold lsF; first | (rw [if_pos (show (bs, ls).1 = -1 ∨ cv k < (bs, ls).2 by first | (left; assumption) | (right; show cv k < ls; omega)), ec]) | rw [if_neg (show ¬ ((bs, ls).1 = -1 ∨ cv k < (bs, ls).2) from fun z => by rcases z with z | z; (exact absurd z (by assumption)); (have z2 : cv k < ls := z; omega))])
theorem s_Mo_loose_1 (mem : zMem) (h : mem 80 2 = 1) (Q9 : zQ2) (hq : Q9 (some (0, -1)) (zup mem 80 9 1)) : zS zT m_Mo_loose (0, 0) 16 [some (2, 80), some (0, (-1)), some (0, 0), some (0, 0)] [] mem (zQs Q9) := by
  refine zV_iload_n d_Mo_loose_16 rfl ?_
  refine zV_aload_n d_Mo_loose_17 rfl ?_
  refine zS_get d_Mo_loose_18 f_Mo_103 rfl rfl ?_
  refine zV_icmp_ge d_Mo_loose_21 (by omega) (by omega) (fun c21 => absurd c21 (by omega)) (fun c21 => ?_)
  refine zV_aload_n d_Mo_loose_24 rfl ?_
  refine zS_get d_Mo_loose_25 f_Mo_103 rfl rfl ?_
  refine zV_iconst d_Mo_loose_28 ?_
  refine zV_icmp_le d_Mo_loose_29 (by omega) (by omega) (fun c29 => ?_) (fun c29 => absurd c29 (by omega))
  refine zV_aload_n d_Mo_loose_76 rfl ?_
  refine zV_iconst d_Mo_loose_77 ?_
  refine zS_putz d_Mo_loose_78 f_Mo_119 rfl ⟨rfl, rfl⟩ rfl (Or.inr rfl) ?_
  refine zV_iload_n d_Mo_loose_81 rfl ?_
  exact zS_iret d_Mo_loose_82 rfl ⟨Nat.zero_le _, Nat.zero_le _⟩ hq
theorem s_Mo_loose (mem : zMem) (hK : moK mem) (cv : Int → Int) (hcv : ∀ k m, 0 ≤ k → k < mem 80 2 → frL mem m → ML m k (lpA mem k) → clA m = cv k) : zF m_Mo_loose [(2, 80)] mem (fun r m => (mem 80 2 = 0 ∧ r = some (0, -103) ∧ m = mem) ∨ (mem 80 2 = 1 ∧ r = some (0, -1) ∧ m = zup mem 80 9 1) ∨ (1 < mem 80 2 ∧ r = some (0, (zfo (lsF cv) (mem 80 2 - 0).toNat 0 (-1, 0)).1) ∧ ∃ m1, frL mem m1 ∧ m = zup m1 80 9 1)) := by
  have k1 := hK.1
  refine zF_of (by decide) (Nat.le_of_ble_eq_true rfl) ?_
  show zS zT m_Mo_loose (0, 0) 0 [some (2, 80), none, none, none] [] mem _
  refine zV_aload_n d_Mo_loose_0 rfl ?_
  refine zS_invvE (mt' := m_Mo_lacks) (avs := []) (st := []) d_Mo_loose_1 l_Mo_213 k_Mo_lacks rfl rfl rfl rfl rfl (s_Mo_lacks mem (by omega)) ?_
  show zS zT m_Mo_loose (0, 0) 4 [some (2, 80), none, none, none] [(0, (zb (mem 80 2 = 0)))] mem _
  refine zV_ifb_eq d_Mo_loose_4 (fun c4 => ?_) (fun c4 => ?_)
  · refine zV_iconst d_Mo_loose_10 ?_
    refine zV_istore_n (L' := [some (2, 80), some (0, (-1)), none, none]) d_Mo_loose_11 (by decide) rfl ?_
    refine zV_iconst d_Mo_loose_12 ?_
    refine zV_istore_n (L' := [some (2, 80), some (0, (-1)), some (0, 0), none]) d_Mo_loose_13 (by decide) rfl ?_
    refine zV_iconst d_Mo_loose_14 ?_
    refine zV_istore_n (L' := [some (2, 80), some (0, (-1)), some (0, 0), some (0, 0)]) d_Mo_loose_15 (by decide) rfl ?_
    rcases Int.lt_or_le 1 (mem 80 2) with h2 | h2
    · refine zS_mono ?_ (s_Mo_loose_l mem hK cv hcv _ h2 0 mem (-1) 0 (by omega) ⟨fun _ _ _ => rfl, fun _ _ _ => rfl⟩ rfl (by omega))
      rintro r m ⟨rfl, h9⟩
      exact Or.inr (Or.inr ⟨h2, rfl, h9⟩)
    · exact s_Mo_loose_1 mem (by omega) _ (Or.inr (Or.inl ⟨by omega, rfl, rfl⟩))
  · refine zV_bipush d_Mo_loose_7 ?_
    exact zS_iret d_Mo_loose_9 rfl ⟨Nat.zero_le _, Nat.zero_le _⟩ (Or.inl ⟨by assumption, rfl, rfl⟩)
