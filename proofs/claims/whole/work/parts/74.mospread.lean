/-! the reference: pieces -/
noncomputable def vM (m : zMem) : zMem := fun a k => if a = 0 ∧ k = 2 then m 80 15 else if a = 2 ∧ 0 ≤ k ∧ k < m 80 15 then 2 * m 91 k else 0
theorem vM_2 (m : zMem) : vM m 0 2 = m 80 15 := by unfold vM; rw [if_pos ⟨rfl, rfl⟩]
theorem vM_t {m : zMem} {s : Int} (h : 0 ≤ s ∧ s < m 80 15) : vM m (0 + 2) s = 2 * m 91 s := by unfold vM; rw [if_neg (by omega), if_pos ⟨by decide, h.1, h.2⟩]
theorem vM_T {m : zMem} (hL : okL m) : okT (vM m) 0 := by
  have b1 := hL.2.2.1.1
  have z : ∀ a k, a ≠ 2 → ¬ (a = 0 ∧ k = 2) → vM m a k = 0 := fun a k h1 h2 => by unfold vM; rw [if_neg h2, if_neg (fun z => h1 z.1)]
  refine ⟨by rw [z 0 1 (by decide) (by omega)]; decide, by rw [vM_2]; exact b1, by rw [z 0 3 (by decide) (by omega)]; decide, fun s q1 q2 => ?_, fun x _ _ => by rw [z _ x (by decide) (by omega)]; decide, fun c _ _ => Or.inl (z _ c (by decide) (by omega))⟩
  by_cases e : s < m 80 15
  · rw [vM_t ⟨q1, e⟩]
    have := hL.2.2.2.1 s q1 e
    omega
  · have : vM m (0 + 2) s = 0 := by unfold vM; rw [if_neg (by omega), if_neg (by omega)]
    rw [this]
    decide
def rdP (b m : zMem) : Prop := ∀ a, a ≠ 93 → m a = b a
def inC (b : zMem) (n j : Int) : Prop := (0 ≤ n ∧ n < b 80 15) ∧ 0 ≤ j ∧ j ≤ 2 * b 91 n
def GC (b : zMem) (H : Int → Prop) (g : Int → Int) : Prop := ∀ n j c i, inC b n j → inC b c i → H (9 * n + j) → H (9 * c + i) → nbM b n j c i → g (9 * n + j) = g (9 * c + i)
def SPI (b : zMem) (H : Int → Prop) (m : zMem) : Prop := rdP b m ∧ ∀ x, inD (vM b) 0 x → (m 93 x = -1 ∧ ¬ H x) ∨ (H x ∧ 0 ≤ m 93 x ∧ m 93 x ≤ x ∧ inD (vM b) 0 (m 93 x) ∧ H (m 93 x) ∧ ∀ g, GC b H g → g (m 93 x) = g x)
noncomputable def Ph (b m : zMem) : Int := zsm (fun x => cif (inD (vM b) 0 x) (m 93 x) 0) 225 0
theorem inC_D {b : zMem} {n j : Int} (h : inC b n j) : inD (vM b) 0 (9 * n + j) := ⟨n, j, h.1.1, by rw [vM_2]; exact h.1.2, h.2.1, by rw [vM_t h.1]; exact h.2.2, rfl⟩
theorem inC_8 {b : zMem} {n j : Int} (hL : okL b) (h : inC b n j) : j ≤ 8 ∧ n < 25 := by
  have := hL.2.2.2.1 n h.1.1 h.1.2
  have b1 := hL.2.2.1.1
  have h1 := h.1
  have h2 := h.2
  omega
theorem D_inC {b : zMem} {x : Int} (h : inD (vM b) 0 x) : ∃ n j, inC b n j ∧ x = 9 * n + j := by
  obtain ⟨n, j, a1, a2, a3, a4, a5⟩ := h
  rw [vM_2] at a2
  rw [vM_t ⟨a1, a2⟩] at a4
  exact ⟨n, j, ⟨⟨a1, a2⟩, a3, a4⟩, a5⟩
theorem nb_ne {b : zMem} {n j c i : Int} (hL : okL b) (h1 : inC b n j) (h2 : inC b c i) (h : nbM b n j c i) : 9 * n + j ≠ 9 * c + i := by
  intro e
  have a := inC_8 hL h1
  have a2 := inC_8 hL h2
  have a3 := h1.2
  have a4 := h2.2
  rcases h with z | z
  · omega
  · have := z.1
    omega
theorem SPI_s {b m : zMem} {H : Int → Prop} {n j c i v : Int} (hL : okL b) (hS : SPI b H m) (h1 : inC b n j) (h2 : inC b c i) (hn : nbM b n j c i) (hv : m 93 (9 * n + j) = v) (hne : v ≠ -1) (hlt : v < m 93 (9 * c + i)) : SPI b H (zup m 93 (9 * c + i) v) ∧ Ph b (zup m 93 (9 * c + i) v) < Ph b m ∧ zup m 93 (9 * c + i) v 93 (9 * n + j) = v := by
  have hxy := nb_ne hL h1 h2 hn
  have d2 := inC_D h2
  have x8 := inC_8 hL h2
  have x7 := h2.1
  have x6 := h2.2
  rcases hS.2 _ (inC_D h1) with z | ⟨a1, a2, a3, a4, a5, a6⟩
  · omega
  · rw [hv] at a2 a3 a4 a5 a6
    rcases hS.2 _ d2 with z | ⟨b1, b2, b3, b4, b5, b6⟩
    · omega
    · refine ⟨⟨fun a q => by rw [zup_a q]; exact hS.1 a q, fun x hx => ?_⟩, ?_, by rw [zup_k hxy]; exact hv⟩
      · by_cases e : x = 9 * c + i
        · rw [e, zup_s]
          exact Or.inr ⟨b1, a2, by omega, a4, a5, fun g hg => (a6 g hg).trans (hg n j c i h1 h2 a1 b1 hn)⟩
        · rw [zup_k e]
          exact hS.2 x hx
      · unfold Ph
        rw [zsm_one (f := fun x => cif (inD (vM b) 0 x) (zup m 93 (9 * c + i) v 93 x) 0) (g := fun x => cif (inD (vM b) 0 x) (m 93 x) 0) (M := 9 * c + i) 225 0 (fun x hx => by show cif _ _ _ = cif _ _ _; rw [zup_k hx]), if_pos (by omega)]
        show zsm _ _ _ + (cif (inD (vM b) 0 (9 * c + i)) (zup m 93 (9 * c + i) v 93 (9 * c + i)) 0 - cif (inD (vM b) 0 (9 * c + i)) (m 93 (9 * c + i)) 0) < _
        rw [cif_t d2, cif_t d2, zup_s]
        omega
theorem zsm_ge {f : Int → Int} {c : Int} (hf : ∀ j, c ≤ f j) : ∀ (k : Nat) (i : Int), k * c ≤ zsm f k i
  | 0, i => by unfold zsm; simp
  | k + 1, i => by
    have h1 := zsm_ge hf k (i + 1)
    have h2 := hf i
    have e : ((k + 1 : Nat) : Int) * c = k * c + c := by rw [Int.natCast_succ, Int.add_mul, Int.one_mul]
    unfold zsm
    omega
theorem Ph_lo {b m : zMem} {H : Int → Prop} (hS : SPI b H m) : -225 ≤ Ph b m := by
  have := zsm_ge (f := fun x => cif (inD (vM b) 0 x) (m 93 x) 0) (c := -1) (fun j => by
    show -1 ≤ cif (inD (vM b) 0 j) (m 93 j) 0
    rcases Classical.em (inD (vM b) 0 j) with h | h
    · rw [cif_t h]
      rcases hS.2 j h with z | z
      · omega
      · have := z.2.1; omega
    · rw [cif_f h]; decide) 225 0
  unfold Ph
  omega
theorem okL_P {b m : zMem} (h : rdP b m) (hL : okL b) : okL m := by
  have e80 := h 80 (by decide)
  have e82 := h 82 (by decide)
  have e83 := h 83 (by decide)
  have e84 := h 84 (by decide)
  have e86 := h 86 (by decide)
  have e87 := h 87 (by decide)
  have e88 := h 88 (by decide)
  have e89 := h 89 (by decide)
  have e90 := h 90 (by decide)
  have e91 := h 91 (by decide)
  simp only [okL, moK, cBs, dBs, mP, e80, e82, e83, e84, e86, e87, e88, e89, e90, e91] at hL ⊢
  exact hL
theorem nbM_P {b m : zMem} (h : rdP b m) (n j c i : Int) : nbM m n j c i = nbM b n j c i := by
  unfold nbM bsM ctM
  rw [h 80 (by decide), h 82 (by decide), h 90 (by decide), h 91 (by decide)]
theorem hoM_P {b m : zMem} (h : rdP b m) (mo f n j : Int) : hoM m mo f n j = hoM b mo f n j := by
  unfold hoM lsM mP
  rw [h 80 (by decide), h 82 (by decide), h 84 (by decide), h 86 (by decide), h 87 (by decide), h 88 (by decide), h 89 (by decide), h 90 (by decide)]
theorem e_cin {b m : zMem} {n : Int} (h : rdP b m) (hn : 0 ≤ n ∧ n < 40) : zF m_Mo_cellsIn [(2, 80), (0, n)] m (fun r m9 => r = some (0, 2 * b 91 n + 1) ∧ m9 = m) := by
  have := s_Mo_cellsIn m n hn
  rw [h 91 (by decide)] at this
  exact this
theorem e_nb {b m : zMem} {n j c i : Int} (h : rdP b m) (hL : okL b) (h1 : 0 ≤ n ∧ n < b 80 15) (h2 : 0 ≤ j ∧ j < 100) (h3 : 0 ≤ c ∧ c < b 80 15) (h4 : 0 ≤ i ∧ i < 100) : zF m_Mo_isNeighbour [(2, 80), (0, n), (0, j), (0, c), (0, i)] m (fun r m9 => r = some (0, zb (nbM b n j c i)) ∧ m9 = m) := by
  have := s_Mo_isNeighbour m n j c i (okL_P h hL) (by rw [h 80 (by decide)]; exact h1) h2 (by rw [h 80 (by decide)]; exact h3) h4
  rw [nbM_P h] at this
  exact this
theorem e_hold {b m : zMem} {mo f n j : Int} (h : rdP b m) (hL : okL b) (hmo : I32 mo) (hf : 0 ≤ f ∧ f < 2147483648) (h1 : 0 ≤ n ∧ n < b 80 15) (h2 : 0 ≤ j ∧ j < 100) : zF m_Mo_holds [(2, 80), (0, mo), (0, f), (0, n), (0, j)] m (fun r m9 => r = some (0, zb (hoM b mo f n j)) ∧ m9 = m) := by
  have := s_Mo_holds m mo f n j (okL_P h hL) hmo hf (by rw [h 80 (by decide)]; exact h1) h2
  rw [hoM_P h] at this
  exact this
/-- a pair along which nothing is to be spread -/
def Fin9 (b s : zMem) (n j c i : Int) : Prop := ¬ (s 93 (9 * n + j) ≠ -1 ∧ s 93 (9 * n + j) < s 93 (9 * c + i) ∧ nbM b n j c i)
def Bs (b : zMem) (H : Int → Prop) (s m : zMem) (mo : Int) : Prop := SPI b H m ∧ (mo = 0 ∨ mo = 1) ∧ (mo = 0 → m = s) ∧ (mo = 1 → Ph b m < Ph b s)
theorem Bs_s {b s m : zMem} {H : Int → Prop} {mo n j c i v : Int} (hL : okL b) (hB : Bs b H s m mo) (h1 : inC b n j) (h2 : inC b c i) (hn : nbM b n j c i) (hv : m 93 (9 * n + j) = v) (hne : v ≠ -1) (hlt : v < m 93 (9 * c + i)) : Bs b H s (zup m 93 (9 * c + i) v) 1 ∧ zup m 93 (9 * c + i) v 93 (9 * n + j) = v := by
  obtain ⟨z1, z2, z3⟩ := SPI_s hL hB.1 h1 h2 hn hv hne hlt
  refine ⟨⟨z1, Or.inr rfl, fun h => absurd h (by decide), fun _ => ?_⟩, z3⟩
  rcases hB.2.1 with e | e
  · rw [hB.2.2.1 e] at z2 ⊢; exact z2
  · have := hB.2.2.2 e; omega
theorem s_Mo_isSpread_75 (b : zMem) (hL : okL b) (H : Int → Prop) (s : zMem) (n j : Int) (hnj : inC b n j) (v : Int) (hv : v ≠ -1) (hv2 : -1 ≤ v ∧ v < 1000) (c : Int) (hc : 0 ≤ c ∧ c < b 80 15) (mo0 : Int) (Q9 : zQ2) (kk : ∀ m mo, Bs b H s m mo → m 93 (9 * n + j) = v → (mo = 0 → mo0 = 0 ∧ ∀ i, 0 ≤ i → i ≤ 2 * b 91 c → Fin9 b s n j c i) → zS zT m_Mo_isSpread (0, 0) 144 [some (2, 80), some (0, mo), some (0, n), some (0, j), some (0, v), some (0, c), none, none] [] m (zQs Q9)) : ∀ (i : Int) (m : zMem) (mo : Int), (0 ≤ i ∧ i ≤ 2 * b 91 c + 1) → (Bs b H s m mo) → (m 93 (9 * n + j) = v) → (mo = 0 → mo0 = 0 ∧ ∀ i1, 0 ≤ i1 → i1 < i → Fin9 b s n j c i1) → zS zT m_Mo_isSpread (0, 0) 75 [some (2, 80), some (0, mo), some (0, n), some (0, j), some (0, v), some (0, c), some (0, i), none] [] m (zQs (Q9)) := by
  intro i m mo
  obtain ⟨k9, hk9⟩ : ∃ kq : Nat, (2 * b 91 c + 1 - i).toNat = kq := ⟨_, rfl⟩
  induction k9 using Nat.strongRecOn generalizing i m mo with
  | _ k9 ih =>
    intro i0 i1 i2 i3
    have b1 := hL.2.2.1.1
    have e80 : m 80 15 = b 80 15 := by rw [i1.1.1 80 (by decide)]
    have mo2 := i1.2.1
    have s1 := hL.2.2.2.1 c hc.1 hc.2
    have n8 := inC_8 hL hnj
    have n7 := hnj.1
    have n6 := hnj.2
    have hr : i ≤ 2 * b 91 c → -1 ≤ m 93 (9 * c + i) ∧ m 93 (9 * c + i) < 1000 := fun q => by
      have h8 := inC_8 hL (show inC b c i from ⟨hc, i0.1, q⟩)
      rcases i1.1.2 _ (inC_D (show inC b c i from ⟨hc, i0.1, q⟩)) with z | z
      · omega
      · have := z.2.1; have := z.2.2.1; omega
    refine zV_iload d_Mo_isSpread_75 rfl ?_
    refine zV_aload_n d_Mo_isSpread_77 rfl ?_
    refine zV_iload d_Mo_isSpread_78 rfl ?_
    refine zS_invvE (mt' := m_Mo_cellsIn) (avs := [(0, c)]) (st := [(0, i)]) d_Mo_isSpread_80 l_Mo_210 k_Mo_cellsIn rfl rfl rfl rfl rfl (e_cin (n := c) i1.1.1 (by omega)) ?_
    show zS zT m_Mo_isSpread (0, 0) 83 [some (2, 80), some (0, mo), some (0, n), some (0, j), some (0, v), some (0, c), some (0, i), none] [(0, (2 * b 91 c + 1)), (0, i)] m _
    refine zV_icmp_ge d_Mo_isSpread_83 (by omega) (by omega) (fun c83 => ?_) (fun c83 => ?_)
    · refine zV_forget (L' := [some (2, 80), some (0, mo), some (0, n), some (0, j), some (0, v), some (0, c), none, none]) (by simp [zle]) ?_
      exact kk m mo i1 i2 (fun q => ⟨(i3 q).1, fun i' q1 q2 => (i3 q).2 i' q1 (by omega)⟩)
    · refine zV_aload_n d_Mo_isSpread_86 rfl ?_
      refine zS_getr (r := 93) d_Mo_isSpread_87 f_Mo_47 rfl rfl rfl ?_
      refine zV_bipush d_Mo_isSpread_90 ?_
      refine zV_iload d_Mo_isSpread_92 rfl ?_
      refine zV_imul d_Mo_isSpread_94 ?_
      refine zV_iload d_Mo_isSpread_95 rfl ?_
      refine zV_iadd d_Mo_isSpread_97 ?_
      refine zS_iald d_Mo_isSpread_98 rfl rfl ⟨by omega, by omega⟩ ?_
      refine zV_istore (L' := [some (2, 80), some (0, mo), some (0, n), some (0, j), some (0, v), some (0, c), some (0, i), some (0, (m 93 ((9 * c) + i)))]) d_Mo_isSpread_99 (by decide) rfl ?_
      refine zV_iload d_Mo_isSpread_101 rfl ?_
      refine zV_iload d_Mo_isSpread_103 rfl ?_
      refine zV_icmp_le d_Mo_isSpread_105 (by omega) (by omega) (fun c105 => ?_) (fun c105 => ?_)
      · refine zV_iinc (L' := [some (2, 80), some (0, mo), some (0, n), some (0, j), some (0, v), some (0, c), some (0, (i + 1)), some (0, (m 93 ((9 * c) + i)))]) d_Mo_isSpread_138 (by decide) rfl rfl ?_
        refine zV_goto d_Mo_isSpread_141 ?_
        refine zV_forget (L' := [some (2, 80), some (0, mo), some (0, n), some (0, j), some (0, v), some (0, c), some (0, (i + 1)), none]) (by simp [zle]) ?_
        refine ih _ (by omega) (i + 1) m mo rfl (by omega) i1 i2 (fun q => ⟨(i3 q).1, fun i' q1 q2 => ?_⟩)
        by_cases e : i' = i
        · rw [e]; intro z; have em := i1.2.2.1 q; rw [← em] at z; first | omega | exact absurd z.2.2 (by assumption)
        · exact (i3 q).2 i' q1 (by omega)
      · refine zV_aload_n d_Mo_isSpread_108 rfl ?_
        refine zV_iload_n d_Mo_isSpread_109 rfl ?_
        refine zV_iload_n d_Mo_isSpread_110 rfl ?_
        refine zV_iload d_Mo_isSpread_111 rfl ?_
        refine zV_iload d_Mo_isSpread_113 rfl ?_
        refine zS_invvE (mt' := m_Mo_isNeighbour) (avs := [(0, n), (0, j), (0, c), (0, i)]) (st := []) d_Mo_isSpread_115 l_Mo_240 k_Mo_isNeighbour rfl rfl rfl rfl rfl (e_nb (n := n) (j := j) (c := c) (i := i) i1.1.1 hL (by omega) (by omega) (by omega) (by omega)) ?_
        show zS zT m_Mo_isSpread (0, 0) 118 [some (2, 80), some (0, mo), some (0, n), some (0, j), some (0, v), some (0, c), some (0, i), some (0, (m 93 ((9 * c) + i)))] [(0, (zb (nbM b n j c i)))] m _
        refine zV_ifb_eq d_Mo_isSpread_118 (fun c118 => ?_) (fun c118 => ?_)
        · refine zV_iinc (L' := [some (2, 80), some (0, mo), some (0, n), some (0, j), some (0, v), some (0, c), some (0, (i + 1)), some (0, (m 93 ((9 * c) + i)))]) d_Mo_isSpread_138 (by decide) rfl rfl ?_
          refine zV_goto d_Mo_isSpread_141 ?_
          refine zV_forget (L' := [some (2, 80), some (0, mo), some (0, n), some (0, j), some (0, v), some (0, c), some (0, (i + 1)), none]) (by simp [zle]) ?_
          refine ih _ (by omega) (i + 1) m mo rfl (by omega) i1 i2 (fun q => ⟨(i3 q).1, fun i' q1 q2 => ?_⟩)
          by_cases e : i' = i
          · rw [e]; intro z; have em := i1.2.2.1 q; rw [← em] at z; first | omega | exact absurd z.2.2 (by assumption)
          · exact (i3 q).2 i' q1 (by omega)
        · refine zV_aload_n d_Mo_isSpread_121 rfl ?_
          refine zS_getr (r := 93) d_Mo_isSpread_122 f_Mo_47 rfl rfl rfl ?_
          refine zV_bipush d_Mo_isSpread_125 ?_
          refine zV_iload d_Mo_isSpread_127 rfl ?_
          refine zV_imul d_Mo_isSpread_129 ?_
          refine zV_iload d_Mo_isSpread_130 rfl ?_
          refine zV_iadd d_Mo_isSpread_132 ?_
          refine zV_iload d_Mo_isSpread_133 rfl ?_
          refine zS_iast d_Mo_isSpread_135 rfl rfl ⟨by omega, by omega⟩ ?_
          refine zV_iconst d_Mo_isSpread_136 ?_
          refine zV_istore_n (L' := [some (2, 80), some (0, 1), some (0, n), some (0, j), some (0, v), some (0, c), some (0, i), some (0, (m 93 ((9 * c) + i)))]) d_Mo_isSpread_137 (by decide) rfl ?_
          refine zV_iinc (L' := [some (2, 80), some (0, 1), some (0, n), some (0, j), some (0, v), some (0, c), some (0, (i + 1)), some (0, (m 93 ((9 * c) + i)))]) d_Mo_isSpread_138 (by decide) rfl rfl ?_
          refine zV_goto d_Mo_isSpread_141 ?_
          obtain ⟨y1, y2⟩ := Bs_s hL i1 hnj (show inC b c i from ⟨hc, i0.1, by omega⟩) (by assumption) i2 hv (by omega)
          refine zV_forget (L' := [some (2, 80), some (0, 1), some (0, n), some (0, j), some (0, v), some (0, c), some (0, (i + 1)), none]) (by simp [zle]) ?_
          exact ih _ (by omega) (i + 1) _ 1 rfl (by omega) y1 y2 (fun q => absurd q (by decide))
theorem s_Mo_isSpread_144 (mem : zMem) (mo n j v c : Int) (hc : 0 ≤ c ∧ c < 40) (Q9 : zQ2) (kk : zS zT m_Mo_isSpread (0, 0) 49 [some (2, 80), some (0, mo), some (0, n), some (0, j), some (0, v), some (0, (c + 1)), none, none] [] mem (zQs Q9)) : zS zT m_Mo_isSpread (0, 0) 144 [some (2, 80), some (0, mo), some (0, n), some (0, j), some (0, v), some (0, c), none, none] [] mem (zQs Q9) := by
  refine zV_iinc (L' := [some (2, 80), some (0, mo), some (0, n), some (0, j), some (0, v), some (0, (c + 1)), none, none]) d_Mo_isSpread_144 (by decide) rfl rfl ?_
  refine zV_goto d_Mo_isSpread_147 ?_
  exact kk
theorem s_Mo_isSpread_150 (mem : zMem) (mo n j : Int) (hj : 0 ≤ j ∧ j < 40) (Q9 : zQ2) (kk : zS zT m_Mo_isSpread (0, 0) 14 [some (2, 80), some (0, mo), some (0, n), some (0, (j + 1)), none, none, none, none] [] mem (zQs Q9)) : zS zT m_Mo_isSpread (0, 0) 150 [some (2, 80), some (0, mo), some (0, n), some (0, j), none, none, none, none] [] mem (zQs Q9) := by
  refine zV_iinc (L' := [some (2, 80), some (0, mo), some (0, n), some (0, (j + 1)), none, none, none, none]) d_Mo_isSpread_150 (by decide) rfl rfl ?_
  refine zV_goto d_Mo_isSpread_153 ?_
  exact kk
theorem s_Mo_isSpread_156 (mem : zMem) (mo n : Int) (hj : 0 ≤ n ∧ n < 40) (Q9 : zQ2) (kk : zS zT m_Mo_isSpread (0, 0) 4 [some (2, 80), some (0, mo), some (0, (n + 1)), none, none, none, none, none] [] mem (zQs Q9)) : zS zT m_Mo_isSpread (0, 0) 156 [some (2, 80), some (0, mo), some (0, n), none, none, none, none, none] [] mem (zQs Q9) := by
  refine zV_iinc (L' := [some (2, 80), some (0, mo), some (0, (n + 1)), none, none, none, none, none]) d_Mo_isSpread_156 (by decide) rfl rfl ?_
  refine zV_goto d_Mo_isSpread_159 ?_
  exact kk
theorem s_Mo_isSpread_49 (b : zMem) (hL : okL b) (H : Int → Prop) (s : zMem) (n j : Int) (hnj : inC b n j) (lo : Int) (hlo : lo = if 0 < n then n - 1 else 0) (v : Int) (hv2 : -1 ≤ v ∧ v < 1000) (mo0 : Int) (Q9 : zQ2) (kk : ∀ m mo, Bs b H s m mo → (mo = 0 → mo0 = 0 ∧ ∀ c i, lo ≤ c → c < b 80 15 → c ≤ n + 1 → 0 ≤ i → i ≤ 2 * b 91 c → Fin9 b s n j c i) → zS zT m_Mo_isSpread (0, 0) 150 [some (2, 80), some (0, mo), some (0, n), some (0, j), none, none, none, none] [] m (zQs Q9)) : ∀ (c : Int) (m : zMem) (mo : Int), (0 ≤ c ∧ c ≤ b 80 15) → (Bs b H s m mo) → (m 93 (9 * n + j) = v) → (mo = 0 → mo0 = 0 ∧ ∀ c1 i, lo ≤ c1 → c1 < c → 0 ≤ i → i ≤ 2 * b 91 c1 → Fin9 b s n j c1 i) → zS zT m_Mo_isSpread (0, 0) 49 [some (2, 80), some (0, mo), some (0, n), some (0, j), some (0, v), some (0, c), none, none] [] m (zQs (Q9)) := by
  intro c m mo
  obtain ⟨k9, hk9⟩ : ∃ kq : Nat, (b 80 15 - c).toNat = kq := ⟨_, rfl⟩
  induction k9 using Nat.strongRecOn generalizing c m mo with
  | _ k9 ih =>
    intro i0 i1 i2 i3
    have b1 := hL.2.2.1.1
    have e80 : m 80 15 = b 80 15 := by rw [i1.1.1 80 (by decide)]
    have mo2 := i1.2.1
    have n7 := hnj.1
    refine zV_iload d_Mo_isSpread_49 rfl ?_
    refine zV_aload_n d_Mo_isSpread_51 rfl ?_
    refine zS_get d_Mo_isSpread_52 f_Mo_184 rfl rfl ?_
    refine zV_icmp_ge d_Mo_isSpread_55 (by omega) (by omega) (fun c55 => ?_) (fun c55 => ?_)
    · refine zV_forget (L' := [some (2, 80), some (0, mo), some (0, n), some (0, j), none, none, none, none]) (by simp [zle]) ?_
      refine kk m mo i1 (fun q => ⟨(i3 q).1, fun c' i' q1 q2 q3 q4 q5 => ?_⟩)
      by_cases e : c' < c
      · exact (i3 q).2 c' i' q1 e q4 q5
      · intro z; have em := i1.2.2.1 q; rw [← em] at z; have z1 := z.1; rw [i2] at z1; omega
    · refine zV_iload d_Mo_isSpread_58 rfl ?_
      refine zV_iload_n d_Mo_isSpread_60 rfl ?_
      refine zV_iconst d_Mo_isSpread_61 ?_
      refine zV_iadd d_Mo_isSpread_62 ?_
      refine zV_icmp_gt d_Mo_isSpread_63 (by omega) (by omega) (fun c63 => ?_) (fun c63 => ?_)
      · refine zV_forget (L' := [some (2, 80), some (0, mo), some (0, n), some (0, j), none, none, none, none]) (by simp [zle]) ?_
        refine kk m mo i1 (fun q => ⟨(i3 q).1, fun c' i' q1 q2 q3 q4 q5 => ?_⟩)
        by_cases e : c' < c
        · exact (i3 q).2 c' i' q1 e q4 q5
        · intro z; have em := i1.2.2.1 q; rw [← em] at z; have z1 := z.1; rw [i2] at z1; omega
      · refine zV_iload d_Mo_isSpread_66 rfl ?_
        refine zV_iconst d_Mo_isSpread_68 ?_
        refine zV_icmp_eq d_Mo_isSpread_69 (by omega) (by omega) (fun c69 => ?_) (fun c69 => ?_)
        · refine zV_forget (L' := [some (2, 80), some (0, mo), some (0, n), some (0, j), none, none, none, none]) (by simp [zle]) ?_
          refine kk m mo i1 (fun q => ⟨(i3 q).1, fun c' i' q1 q2 q3 q4 q5 => ?_⟩)
          by_cases e : c' < c
          · exact (i3 q).2 c' i' q1 e q4 q5
          · intro z; have em := i1.2.2.1 q; rw [← em] at z; have z1 := z.1; rw [i2] at z1; omega
        · refine zV_iconst d_Mo_isSpread_72 ?_
          refine zV_istore (L' := [some (2, 80), some (0, mo), some (0, n), some (0, j), some (0, v), some (0, c), some (0, 0), none]) d_Mo_isSpread_73 (by decide) rfl ?_
          refine s_Mo_isSpread_75 b hL H s n j hnj v (by omega) hv2 c ⟨i0.1, by omega⟩ mo _ (fun m5 mo5 y1 y2 y3 => ?_) 0 m mo (by have := hL.2.2.2.1 c i0.1 (by omega); omega) i1 i2 (fun q => ⟨q, fun i' q1 q2 => by omega⟩)
          refine s_Mo_isSpread_144 m5 mo5 n j v c (by omega) _ (ih _ (by omega) (c + 1) m5 mo5 rfl (by omega) y1 y2 (fun q => ⟨(i3 (y3 q).1).1, fun c' i' q1 q2 q3 q4 => ?_⟩))
          by_cases e : c' = c
          · rw [e] at q4 ⊢; exact (y3 q).2 i' q3 q4
          · exact (i3 (y3 q).1).2 c' i' q1 (by omega) q3 q4
theorem s_Mo_isSpread_14 (b : zMem) (hL : okL b) (H : Int → Prop) (s : zMem) (n : Int) (hn : 0 ≤ n ∧ n < b 80 15) (mo0 : Int) (Q9 : zQ2) (kk : ∀ m mo, Bs b H s m mo → (mo = 0 → mo0 = 0 ∧ ∀ j c i, 0 ≤ j → j ≤ 2 * b 91 n → (0 ≤ c ∧ n - 1 ≤ c) → c < b 80 15 → c ≤ n + 1 → 0 ≤ i → i ≤ 2 * b 91 c → Fin9 b s n j c i) → zS zT m_Mo_isSpread (0, 0) 156 [some (2, 80), some (0, mo), some (0, n), none, none, none, none, none] [] m (zQs Q9)) : ∀ (j : Int) (m : zMem) (mo : Int), (0 ≤ j ∧ j ≤ 2 * b 91 n + 1) → (Bs b H s m mo) → (mo = 0 → mo0 = 0 ∧ ∀ j1 c i, 0 ≤ j1 → j1 < j → (0 ≤ c ∧ n - 1 ≤ c) → c < b 80 15 → c ≤ n + 1 → 0 ≤ i → i ≤ 2 * b 91 c → Fin9 b s n j1 c i) → zS zT m_Mo_isSpread (0, 0) 14 [some (2, 80), some (0, mo), some (0, n), some (0, j), none, none, none, none] [] m (zQs (Q9)) := by
  intro j m mo
  obtain ⟨k9, hk9⟩ : ∃ kq : Nat, (2 * b 91 n + 1 - j).toNat = kq := ⟨_, rfl⟩
  induction k9 using Nat.strongRecOn generalizing j m mo with
  | _ k9 ih =>
    intro i0 i1 i2
    have b1 := hL.2.2.1.1
    have e80 : m 80 15 = b 80 15 := by rw [i1.1.1 80 (by decide)]
    have mo2 := i1.2.1
    have s1 := hL.2.2.2.1 n hn.1 hn.2
    refine zV_iload_n d_Mo_isSpread_14 rfl ?_
    refine zV_aload_n d_Mo_isSpread_15 rfl ?_
    refine zV_iload_n d_Mo_isSpread_16 rfl ?_
    refine zS_invvE (mt' := m_Mo_cellsIn) (avs := [(0, n)]) (st := [(0, j)]) d_Mo_isSpread_17 l_Mo_210 k_Mo_cellsIn rfl rfl rfl rfl rfl (e_cin (n := n) i1.1.1 (by omega)) ?_
    show zS zT m_Mo_isSpread (0, 0) 20 [some (2, 80), some (0, mo), some (0, n), some (0, j), none, none, none, none] [(0, (2 * b 91 n + 1)), (0, j)] m _
    refine zV_icmp_ge d_Mo_isSpread_20 (by omega) (by omega) (fun c20 => ?_) (fun c20 => ?_)
    · refine zV_forget (L' := [some (2, 80), some (0, mo), some (0, n), none, none, none, none, none]) (by simp [zle]) ?_
      exact kk m mo i1 (fun q => ⟨(i2 q).1, fun j' c' i' q1 q2 => (i2 q).2 j' c' i' q1 (by omega)⟩)
    · refine zV_aload_n d_Mo_isSpread_23 rfl ?_
      refine zS_getr (r := 93) d_Mo_isSpread_24 f_Mo_47 rfl rfl rfl ?_
      refine zV_bipush d_Mo_isSpread_27 ?_
      refine zV_iload_n d_Mo_isSpread_29 rfl ?_
      refine zV_imul d_Mo_isSpread_30 ?_
      refine zV_iload_n d_Mo_isSpread_31 rfl ?_
      refine zV_iadd d_Mo_isSpread_32 ?_
      refine zS_iald d_Mo_isSpread_33 rfl rfl ⟨by omega, by omega⟩ ?_
      have hnj : inC b n j := ⟨hn, i0.1, by omega⟩
      have n8 := inC_8 hL hnj
      have hr : -1 ≤ m 93 (9 * n + j) ∧ m 93 (9 * n + j) < 1000 := by
        rcases i1.1.2 _ (inC_D hnj) with z | z
        · omega
        · have := z.2.1; have := z.2.2.1; omega
      refine zV_istore (L' := [some (2, 80), some (0, mo), some (0, n), some (0, j), some (0, (m 93 ((9 * n) + j))), none, none, none]) d_Mo_isSpread_34 (by decide) rfl ?_
      refine zV_iload_n d_Mo_isSpread_36 rfl ?_
      refine zV_if_le d_Mo_isSpread_37 (by omega) (fun c37 => ?_) (fun c37 => ?_)
      · refine zV_iconst d_Mo_isSpread_46 ?_
        refine zV_istore (L' := [some (2, 80), some (0, mo), some (0, n), some (0, j), some (0, (m 93 ((9 * n) + j))), some (0, 0), none, none]) d_Mo_isSpread_47 (by decide) rfl ?_
        have el : 0 = if 0 < n then n - 1 else 0 := by first | rw [if_pos (by omega)] | rw [if_neg (by omega)]
        refine s_Mo_isSpread_49 b hL H s n j hnj 0 el _ hr mo _ (fun m5 mo5 y1 y3 => ?_) 0 m mo (by omega) i1 rfl (fun q => ⟨q, fun c' i' q1 q2 => by omega⟩)
        refine s_Mo_isSpread_150 m5 mo5 n j (by omega) _ (ih _ (by omega) (j + 1) m5 mo5 rfl (by omega) y1 (fun q => ⟨(i2 (y3 q).1).1, fun j' c' i' q1 q2 q3 q4 q5 q6 q7 => ?_⟩))
        by_cases e : j' = j
        · rw [e]; exact (y3 q).2 c' i' (by omega) q4 q5 q6 q7
        · exact (i2 (y3 q).1).2 j' c' i' q1 (by omega) q3 q4 q5 q6 q7
      · refine zV_iload_n d_Mo_isSpread_40 rfl ?_
        refine zV_iconst d_Mo_isSpread_41 ?_
        refine zV_isub d_Mo_isSpread_42 ?_
        refine zV_goto d_Mo_isSpread_43 ?_
        refine zV_istore (L' := [some (2, 80), some (0, mo), some (0, n), some (0, j), some (0, (m 93 ((9 * n) + j))), some (0, (n - 1)), none, none]) d_Mo_isSpread_47 (by decide) rfl ?_
        have el : (n - 1) = if 0 < n then n - 1 else 0 := by first | rw [if_pos (by omega)] | rw [if_neg (by omega)]
        refine s_Mo_isSpread_49 b hL H s n j hnj (n - 1) el _ hr mo _ (fun m5 mo5 y1 y3 => ?_) (n - 1) m mo (by omega) i1 rfl (fun q => ⟨q, fun c' i' q1 q2 => by omega⟩)
        refine s_Mo_isSpread_150 m5 mo5 n j (by omega) _ (ih _ (by omega) (j + 1) m5 mo5 rfl (by omega) y1 (fun q => ⟨(i2 (y3 q).1).1, fun j' c' i' q1 q2 q3 q4 q5 q6 q7 => ?_⟩))
        by_cases e : j' = j
        · rw [e]; exact (y3 q).2 c' i' (by omega) q4 q5 q6 q7
        · exact (i2 (y3 q).1).2 j' c' i' q1 (by omega) q3 q4 q5 q6 q7
def AF9 (b s : zMem) : Prop := ∀ n j c i, inC b n j → inC b c i → n - 1 ≤ c → c ≤ n + 1 → Fin9 b s n j c i
theorem s_Mo_isSpread_4 (b : zMem) (hL : okL b) (H : Int → Prop) (s : zMem) : ∀ (n : Int) (m : zMem) (mo : Int), (0 ≤ n ∧ n ≤ b 80 15) → (Bs b H s m mo) → (mo = 0 → ∀ n1 j c i, 0 ≤ n1 → n1 < n → 0 ≤ j → j ≤ 2 * b 91 n1 → (0 ≤ c ∧ n1 - 1 ≤ c) → c < b 80 15 → c ≤ n1 + 1 → 0 ≤ i → i ≤ 2 * b 91 c → Fin9 b s n1 j c i) → zS zT m_Mo_isSpread (0, 0) 4 [some (2, 80), some (0, mo), some (0, n), none, none, none, none, none] [] m (zQs (fun r m => ∃ x, r = some (0, x) ∧ (x = 0 ∨ x = 1) ∧ SPI b H m ∧ (x = 0 → m = s ∧ AF9 b s) ∧ (x = 1 → Ph b m < Ph b s))) := by
  intro n m mo
  obtain ⟨k9, hk9⟩ : ∃ kq : Nat, (b 80 15 - n).toNat = kq := ⟨_, rfl⟩
  induction k9 using Nat.strongRecOn generalizing n m mo with
  | _ k9 ih =>
    intro i0 i1 i2
    have b1 := hL.2.2.1.1
    have e80 : m 80 15 = b 80 15 := by rw [i1.1.1 80 (by decide)]
    have mo2 := i1.2.1
    refine zV_iload_n d_Mo_isSpread_4 rfl ?_
    refine zV_aload_n d_Mo_isSpread_5 rfl ?_
    refine zS_get d_Mo_isSpread_6 f_Mo_184 rfl rfl ?_
    refine zV_icmp_ge d_Mo_isSpread_9 (by omega) (by omega) (fun c9 => ?_) (fun c9 => ?_)
    · refine zV_iload_n d_Mo_isSpread_162 rfl ?_
      exact zS_zret d_Mo_isSpread_163 rfl ⟨Nat.zero_le _, Nat.zero_le _⟩ mo2 ⟨mo, rfl, mo2, i1.1, fun q => ⟨i1.2.2.1 q, fun n1 j1 c1 i1 y1 y2 y3 y4 => i2 q n1 j1 c1 i1 y1.1.1 (by have := y1.1.2; omega) y1.2.1 y1.2.2 ⟨y2.1.1, y3⟩ y2.1.2 y4 y2.2.1 y2.2.2⟩, i1.2.2.2⟩
    · refine zV_iconst d_Mo_isSpread_12 ?_
      refine zV_istore_n (L' := [some (2, 80), some (0, mo), some (0, n), some (0, 0), none, none, none, none]) d_Mo_isSpread_13 (by decide) rfl ?_
      refine s_Mo_isSpread_14 b hL H s n ⟨i0.1, by omega⟩ mo _ (fun m5 mo5 y1 y3 => ?_) 0 m mo (by have := hL.2.2.2.1 n i0.1 (by omega); omega) i1 (fun q => ⟨q, fun j' c' i' q1 q2 => by omega⟩)
      refine s_Mo_isSpread_156 m5 mo5 n (by omega) _ (ih _ (by omega) (n + 1) m5 mo5 rfl (by omega) y1 (fun q n' j' c' i' q1 q2 q3 q4 q5 q6 q7 q8 q9 => ?_))
      by_cases e : n' = n
      · rw [e] at q4 q5 q7 ⊢; exact (y3 q).2 j' c' i' q3 q4 q5 q6 q7 q8 q9
      · exact i2 (y3 q).1 n' j' c' i' q1 (by omega) q3 q4 q5 q6 q7 q8 q9
theorem s_Mo_isSpread (b : zMem) (hL : okL b) (H : Int → Prop) (mem : zMem) (hS : SPI b H mem) : zF m_Mo_isSpread [(2, 80)] mem (fun r m => ∃ x, r = some (0, x) ∧ (x = 0 ∨ x = 1) ∧ SPI b H m ∧ (x = 0 → m = mem ∧ AF9 b mem) ∧ (x = 1 → Ph b m < Ph b mem)) := by
  have b1 := hL.2.2.1.1
  refine zF_of (by decide) (Nat.le_of_ble_eq_true rfl) ?_
  show zS zT m_Mo_isSpread (0, 0) 0 [some (2, 80), none, none, none, none, none, none, none] [] mem _
  refine zV_iconst d_Mo_isSpread_0 ?_
  refine zV_istore_n (L' := [some (2, 80), some (0, 0), none, none, none, none, none, none]) d_Mo_isSpread_1 (by decide) rfl ?_
  refine zV_iconst d_Mo_isSpread_2 ?_
  refine zV_istore_n (L' := [some (2, 80), some (0, 0), some (0, 0), none, none, none, none, none]) d_Mo_isSpread_3 (by decide) rfl ?_
  exact s_Mo_isSpread_4 b hL H mem 0 mem 0 (by omega) ⟨hS, Or.inl rfl, fun _ => rfl, fun q => absurd q (by decide)⟩ (fun _ n' j' c' i' q1 q2 => by omega)
