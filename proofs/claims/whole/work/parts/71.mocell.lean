/-! the reference: all is laid; cells -/
def ML (m : zMem) (out : Int) (s : PtS) : Prop := okA s ∧ Srt s ∧ LSm m s (2 * s.1 + 1) ∧ ∀ n, 0 ≤ n → n < 2 * s.1 + 1 → m 91 n = scM m out n ∧ ∀ k, 0 ≤ k → k < m 80 2 → m 90 (4 * n + k) = rkM m out n k
def frL (mem m : zMem) : Prop := (∀ a, a ≠ 80 → (a < 86 ∨ 91 < a) → m a = mem a) ∧ ∀ k, k ≠ 14 → k ≠ 15 → m 80 k = mem 80 k
theorem LS_db {m : zMem} {s : PtS} (hA : okA s) (h : LSm m s (2 * s.1 + 1)) : dBs m := by
  obtain ⟨⟨a1, a2, a3⟩, b, c⟩ := h
  have h0 := hA.1
  refine ⟨by omega, fun n q1 q2 => ?_⟩
  obtain ⟨c1, c2⟩ := c n q1 (by omega)
  by_cases e : n % 2 = 1
  · rw [c1 e]
    exact Or.inl (hA.2 _ (by omega) (by omega)).1
  · obtain ⟨d1, d2, d3, _⟩ := c2 (by omega)
    exact Or.inr ⟨d1, d2, d3⟩
def cBs (m : zMem) : Prop := ∀ n c, 0 ≤ n → n < m 80 15 → -9 ≤ c → c ≤ 9 → cB (mP m (20 + n)) c 1
theorem LS_cb {m : zMem} {s : PtS} (hA : okA s) (h : LSm m s (2 * s.1 + 1)) : cBs m := by
  obtain ⟨⟨a1, a2, a3⟩, b, c⟩ := h
  have h0 := hA.1
  intro n x q1 q2 q3 q4
  obtain ⟨c1, c2⟩ := c n q1 (by omega)
  by_cases e : n % 2 = 1
  · rw [c1 e]
    exact cB_ok (hA.2 _ (by omega) (by omega)) (by decide) (by omega)
  · obtain ⟨d1, d2, d3, _⟩ := c2 (by omega)
    refine cB_0 d1 ?_
    have q := mb (⟨by omega, q4⟩ : -9 ≤ x ∧ x ≤ 9) (⟨by omega, d2.2⟩ : -4194304 ≤ (mP m (20 + n)).2.2.2 ∧ (mP m (20 + n)).2.2.2 ≤ 4194304)
    omega
theorem sc_E {m0 m : zMem} (h : rdE m0 m) (out n : Int) : scM m out n = scM m0 out n := by
  unfold scM fsG byM
  simp only [rdE_d h, h 82 (by decide) (by decide), h 80 (by decide) (by decide)]
theorem rk_E {m0 m : zMem} (h : rdE m0 m) (out n k : Int) : rkM m out n k = rkM m0 out n k := by
  unfold rkM byM
  simp only [rdE_d h, rdE_f h, h 82 (by decide) (by decide), h 80 (by decide) (by decide)]
theorem LS_E {m0 m : zMem} {s : PtS} {k : Int} (h : rdE m0 m) (hL : LSm m0 s k) : LSm m s k := by
  unfold LSm MS
  simp only [rdE_P h, h 80 (by decide) (by decide)]
  exact hL
theorem ML_cg {m m' : zMem} {out : Int} {s : PtS} (h : ∀ a, 82 ≤ a → a ≤ 91 → m' a = m a) (h2 : m' 80 2 = m 80 2) (h3 : m' 80 14 = m 80 14) (h4 : m' 80 15 = m 80 15) (hL : ML m out s) : ML m' out s := by
  have e82 := h 82 (by decide) (by decide)
  have e83 := h 83 (by decide) (by decide)
  have e84 := h 84 (by decide) (by decide)
  have e86 := h 86 (by decide) (by decide)
  have e87 := h 87 (by decide) (by decide)
  have e88 := h 88 (by decide) (by decide)
  have e89 := h 89 (by decide) (by decide)
  have e90 := h 90 (by decide) (by decide)
  have e91 := h 91 (by decide) (by decide)
  simp only [ML, LSm, MS, scM, rkM, fsG, byM, fsM, dfM, mP, e82, e83, e84, e86, e87, e88, e89, e90, e91, h2, h3, h4] at hL ⊢
  exact hL
theorem lpA_cg {m m' : zMem} (h82 : m' 82 = m 82) (h83 : m' 83 = m 83) (h84 : m' 84 = m 84) (h2 : m' 80 2 = m 80 2) (out : Int) : lpA m' out = lpA m out := by
  have e : lpO m' out = lpO m out := by
    funext k s
    unfold lpO lpI
    rw [h82, h83, h84]
  unfold lpA
  rw [e, h2]
theorem s_Mo_layAll (mem : zMem) (out : Int) (ho : I32 out) (hK : moK mem) : zF m_Mo_layAll [(2, 80), (0, out)] mem (fun r m => r = none ∧ ML m out (lpA mem out) ∧ frL mem m) := by
  refine zF_of (by decide) (Nat.le_of_ble_eq_true rfl) ?_
  show zS zT m_Mo_layAll (0, 0) 0 [some (2, 80), some (0, out)] [] mem _
  refine zV_aload_n d_Mo_layAll_0 rfl ?_
  refine zV_iload_n d_Mo_layAll_1 rfl ?_
  refine zS_invv (mt' := m_Mo_layPoints) (avs := [(0, out)]) (st := []) d_Mo_layAll_2 l_Mo_198 k_Mo_layPoints rfl rfl rfl rfl rfl (s_Mo_layPoints mem out ho hK) (fun r9 m1 hq9 => ?_)
  obtain ⟨rfl, hM1, hA1, hS1, hF1⟩ := hq9
  have a0 := hA1.1
  show zS zT m_Mo_layAll (0, 0) 5 [some (2, 80), some (0, out)] [] m1 _
  refine zV_aload_n d_Mo_layAll_5 rfl ?_
  refine zS_invv (mt' := m_Mo_laySamples) (avs := []) (st := []) d_Mo_layAll_6 l_Mo_201 k_Mo_laySamples rfl rfl rfl rfl rfl (s_Mo_laySamples m1 (lpA mem out) hA1 hS1 (lpA_N mem out) hM1.2.1 hM1) (fun r9 m2 hq9 => ?_)
  obtain ⟨rfl, hL2, hF2⟩ := hq9
  have hK2 : moK m2 := by
    unfold moK
    rw [hF2.1 82 (by decide) (by omega), hF2.1 83 (by decide) (by omega), hF2.1 84 (by decide) (by omega), hF2.2 2 (by decide) (by decide), hF1.1 82 (by decide) (by omega), hF1.1 83 (by decide) (by omega), hF1.1 84 (by decide) (by omega), hF1.2 2 (by decide)]
    exact hK
  show zS zT m_Mo_layAll (0, 0) 9 [some (2, 80), some (0, out)] [] m2 _
  refine zV_aload_n d_Mo_layAll_9 rfl ?_
  refine zV_iload_n d_Mo_layAll_10 rfl ?_
  refine zS_invv (mt' := m_Mo_layRanks) (avs := [(0, out)]) (st := []) d_Mo_layAll_11 l_Mo_204 k_Mo_layRanks rfl rfl rfl rfl rfl (s_Mo_layRanks m2 out ho hK2 (LS_db hA1 hL2)) (fun r9 m3 hq9 => ?_)
  obtain ⟨rfl, hE3, hR1, hR2⟩ := hq9
  show zS zT m_Mo_layAll (0, 0) 14 [some (2, 80), some (0, out)] [] m3 _
  exact zS_vret d_Mo_layAll_14 rfl ⟨Nat.zero_le _, Nat.zero_le _⟩ ⟨rfl, ⟨hA1, hS1, LS_E hE3 hL2, fun n q1 q2 => ⟨by rw [sc_E hE3]; exact hR1 n q1 (by rw [hL2.2.1]; exact q2), fun k q3 q4 => by rw [rk_E hE3]; exact hR2 n k q1 q3 (by rw [hE3 80 (by decide) (by decide)] at q4; exact q4) (Or.inl (by rw [hL2.2.1]; exact q2))⟩⟩, ⟨fun a q1 q2 => by rw [hE3 a (by omega) (by omega), hF2.1 a q1 (by omega), hF1.1 a q1 (by omega)], fun k q1 q2 => by rw [hE3 80 (by decide) (by decide), hF2.2 k q1 q2, hF1.2 k q1]⟩⟩
/-- what is laid is of these curves, unless it is old -/
def FRT (m : zMem) : Prop := (m 80 9 = 0 ∨ m 80 9 = 1) ∧ (m 80 9 = 0 → ML m (-1) (lpA m (-1)))
def FRS (m : zMem) : Prop := (m 80 9 = 0 ∨ m 80 9 = 1) ∧ (m 80 9 = 0 → m 80 2 ≠ 0 → ML m (-1) (lpA m (-1)))
theorem FRS_T {m : zMem} (h : FRS m) (hne : m 80 2 ≠ 0) : FRT m := ⟨h.1, fun q => h.2 q hne⟩
def frF (mem m : zMem) : Prop := (∀ a, a ≠ 80 → (a < 86 ∨ 91 < a) → m a = mem a) ∧ ∀ k, k ≠ 9 → k ≠ 14 → k ≠ 15 → m 80 k = mem 80 k
def FRm (mem m : zMem) : Prop := ML m (-1) (lpA mem (-1)) ∧ frF mem m ∧ m 80 9 = 0
theorem frF_r (m : zMem) : frF m m := ⟨fun _ _ _ => rfl, fun _ _ _ _ => rfl⟩
theorem s_Mo_freshen (mem : zMem) (hK : moK mem) (hO : FRT mem) : zF m_Mo_freshen [(2, 80)] mem (fun r m => r = none ∧ FRm mem m) := by
  have o1 := hO.1
  refine zF_of (by decide) (Nat.le_of_ble_eq_true rfl) ?_
  show zS zT m_Mo_freshen (0, 0) 0 [some (2, 80)] [] mem _
  refine zV_aload_n d_Mo_freshen_0 rfl ?_
  refine zS_get d_Mo_freshen_1 f_Mo_119 rfl rfl ?_
  refine zV_if_eq d_Mo_freshen_4 (by omega) (fun c4 => ?_) (fun c4 => ?_)
  · exact zS_vret d_Mo_freshen_17 rfl ⟨Nat.zero_le _, Nat.zero_le _⟩ ⟨rfl, hO.2 (by omega), frF_r _, by omega⟩
  · refine zV_aload_n d_Mo_freshen_7 rfl ?_
    refine zV_iconst d_Mo_freshen_8 ?_
    refine zS_invv (mt' := m_Mo_layAll) (avs := [(0, (-1))]) (st := []) d_Mo_freshen_9 l_Mo_207 k_Mo_layAll rfl rfl rfl rfl rfl (s_Mo_layAll mem (-1) ⟨by decide, by decide⟩ hK) (fun r9 m1 hq9 => ?_)
    obtain ⟨rfl, hL1, hF1⟩ := hq9
    show zS zT m_Mo_freshen (0, 0) 12 [some (2, 80)] [] m1 _
    refine zV_aload_n d_Mo_freshen_12 rfl ?_
    refine zV_iconst d_Mo_freshen_13 ?_
    refine zS_putz d_Mo_freshen_14 f_Mo_119 rfl ⟨rfl, rfl⟩ rfl (Or.inl rfl) ?_
    exact zS_vret d_Mo_freshen_17 rfl ⟨Nat.zero_le _, Nat.zero_le _⟩ ⟨rfl, ML_cg (fun a q1 q2 => zup_a (by omega)) (zup_k (by decide)) (zup_k (by decide)) (zup_k (by decide)) hL1, ⟨fun a q1 q2 => by rw [zup_a q1]; exact hF1.1 a q1 q2, fun k q1 q2 q3 => by rw [zup_k q1]; exact hF1.2 k q2 q3⟩, zup_s⟩
theorem FRm_K {mem m : zMem} (h : FRm mem m) (hK : moK mem) : moK m := by
  unfold moK
  rw [h.2.1.1 82 (by decide) (by omega), h.2.1.1 83 (by decide) (by omega), h.2.1.1 84 (by decide) (by omega), h.2.1.2 2 (by decide) (by decide) (by decide)]
  exact hK
theorem FRm_A {mem m : zMem} (h : FRm mem m) (out : Int) : lpA m out = lpA mem out := lpA_cg (h.2.1.1 82 (by decide) (by omega)) (h.2.1.1 83 (by decide) (by omega)) (h.2.1.1 84 (by decide) (by omega)) (h.2.1.2 2 (by decide) (by decide) (by decide)) out
theorem FRm_S {mem m : zMem} (h : FRm mem m) : FRS m := ⟨Or.inl h.2.2, fun _ _ => by rw [FRm_A h]; exact h.1⟩
theorem scM_r {m : zMem} {out n : Int} (hK : moK m) : 0 ≤ scM m out n ∧ scM m out n ≤ 4 := by
  have k1 := hK.1
  have := zsm_r (f := fun k => zb (fsG m out n k (m 80 2))) (fun j => by have := zb_01 (fsG m out n j (m 80 2)); omega) (m 80 2 - 0).toNat 0
  unfold scM
  omega
theorem rkM_r {m : zMem} {out n k : Int} (hK : moK m) : 0 ≤ rkM m out n k ∧ rkM m out n k ≤ 4 := by
  have k1 := hK.1
  have := zsm_r (f := fun j => zb (byM m out n j k < 0 ∧ fsM m out n j)) (fun j => by have := zb_01 (byM m out n j k < 0 ∧ fsM m out n j); omega) (m 80 2 - 0).toNat 0
  unfold rkM
  omega
/-- what reading needs -/
def okL (m : zMem) : Prop := moK m ∧ cBs m ∧ dBs m ∧ (∀ n, 0 ≤ n → n < m 80 15 → 0 ≤ m 91 n ∧ m 91 n ≤ 4) ∧ ∀ n k, 0 ≤ n → n < m 80 15 → 0 ≤ k → k < m 80 2 → 0 ≤ m 90 (4 * n + k) ∧ m 90 (4 * n + k) ≤ 4
theorem ML_ok {m : zMem} {out : Int} {s : PtS} (hK : moK m) (h : ML m out s) : okL m := by
  obtain ⟨hA, hS, hL, hR⟩ := h
  have e := hL.2.1
  refine ⟨hK, LS_cb hA hL, LS_db hA hL, fun n q1 q2 => ?_, fun n k q1 q2 q3 q4 => ?_⟩
  · rw [(hR n q1 (by omega)).1]; exact scM_r hK
  · rw [(hR n q1 (by omega)).2 k q3 q4]; exact rkM_r hK
theorem s_Mo_cellsIn (mem : zMem) (n : Int) (hn : 0 ≤ n ∧ n < 40) : zF m_Mo_cellsIn [(2, 80), (0, n)] mem (fun r m => r = some (0, 2 * mem 91 n + 1) ∧ m = mem) := by
  refine zF_of (by decide) (Nat.le_of_ble_eq_true rfl) ?_
  show zS zT m_Mo_cellsIn (0, 0) 0 [some (2, 80), some (0, n)] [] mem _
  refine zV_iconst d_Mo_cellsIn_0 ?_
  refine zV_aload_n d_Mo_cellsIn_1 rfl ?_
  refine zS_getr (r := 91) d_Mo_cellsIn_2 f_Mo_41 rfl rfl rfl ?_
  refine zV_iload_n d_Mo_cellsIn_5 rfl ?_
  refine zS_iald d_Mo_cellsIn_6 rfl rfl ⟨by omega, by omega⟩ ?_
  refine zV_imul d_Mo_cellsIn_7 ?_
  refine zV_iconst d_Mo_cellsIn_8 ?_
  refine zV_iadd d_Mo_cellsIn_9 ?_
  exact zS_iret d_Mo_cellsIn_10 rfl ⟨Nat.zero_le _, Nat.zero_le _⟩ ⟨rfl, rfl⟩
theorem s_Mo_cellsAll_l (mem : zMem) (hn : 0 ≤ mem 80 15 ∧ mem 80 15 ≤ 25) (q : Int) : ∀ (i : Int) (acc : Int), (0 ≤ i ∧ i ≤ mem 80 15) → (acc + zsm (fun n => 2 * mem 91 n + 1) (mem 80 15 - i).toNat i = q) → zS zT m_Mo_cellsAll (0, 0) 4 [some (2, 80), some (0, acc), some (0, i)] [] mem (zQs (fun r m => r = some (0, q) ∧ m = mem)) := by
  intro i acc
  obtain ⟨k9, hk9⟩ : ∃ kq : Nat, (mem 80 15 - i).toNat = kq := ⟨_, rfl⟩
  induction k9 using Nat.strongRecOn generalizing i acc with
  | _ k9 ih =>
    intro i0 i1
    refine zV_iload_n d_Mo_cellsAll_4 rfl ?_
    refine zV_aload_n d_Mo_cellsAll_5 rfl ?_
    refine zS_get d_Mo_cellsAll_6 f_Mo_184 rfl rfl ?_
    refine zV_icmp_ge d_Mo_cellsAll_9 (by omega) (by omega) (fun c9 => ?_) (fun c9 => ?_)
    · refine zV_iload_n d_Mo_cellsAll_26 rfl ?_
      exact zS_iret d_Mo_cellsAll_27 rfl ⟨Nat.zero_le _, Nat.zero_le _⟩ ⟨by rw [← i1, zsm_e (n := mem 80 15) (by omega), Int.add_zero], rfl⟩
    · refine zV_iload_n d_Mo_cellsAll_12 rfl ?_
      refine zV_aload_n d_Mo_cellsAll_13 rfl ?_
      refine zV_iload_n d_Mo_cellsAll_14 rfl ?_
      refine zS_invvE (mt' := m_Mo_cellsIn) (avs := [(0, i)]) (st := [(0, acc)]) d_Mo_cellsAll_15 l_Mo_210 k_Mo_cellsIn rfl rfl rfl rfl rfl (s_Mo_cellsIn mem i (by omega)) ?_
      show zS zT m_Mo_cellsAll (0, 0) 18 [some (2, 80), some (0, acc), some (0, i)] [(0, (2 * mem 91 i + 1)), (0, acc)] mem _
      refine zV_iadd d_Mo_cellsAll_18 ?_
      refine zV_istore_n (L' := [some (2, 80), some (0, (acc + (2 * mem 91 i + 1))), some (0, i)]) d_Mo_cellsAll_19 (by decide) rfl ?_
      refine zV_iinc (L' := [some (2, 80), some (0, (acc + (2 * mem 91 i + 1))), some (0, (i + 1))]) d_Mo_cellsAll_20 (by decide) rfl rfl ?_
      refine zV_goto d_Mo_cellsAll_23 ?_
      refine ih _ (by omega) _ _ rfl (by omega) ?_
      rw [← i1, zsm_s (n := mem 80 15) (i := i) (by omega)]
      omega
def clA (mem : zMem) : Int := zsm (fun n => 2 * mem 91 n + 1) (mem 80 15 - 0).toNat 0
theorem s_Mo_cellsAll (mem : zMem) (hn : 0 ≤ mem 80 15 ∧ mem 80 15 ≤ 25) : zF m_Mo_cellsAll [(2, 80)] mem (fun r m => r = some (0, clA mem) ∧ m = mem) := by
  refine zF_of (by decide) (Nat.le_of_ble_eq_true rfl) ?_
  show zS zT m_Mo_cellsAll (0, 0) 0 [some (2, 80), none, none] [] mem _
  refine zV_iconst d_Mo_cellsAll_0 ?_
  refine zV_istore_n (L' := [some (2, 80), some (0, 0), none]) d_Mo_cellsAll_1 (by decide) rfl ?_
  refine zV_iconst d_Mo_cellsAll_2 ?_
  refine zV_istore_n (L' := [some (2, 80), some (0, 0), some (0, 0)]) d_Mo_cellsAll_3 (by decide) rfl ?_
  exact s_Mo_cellsAll_l mem hn _ 0 0 (by omega) (by rw [Int.zero_add]; rfl)
theorem s_Mo_sectionsAll_l (mem : zMem) (hn : 0 ≤ mem 80 15 ∧ mem 80 15 ≤ 25) (q : Int) : ∀ (i : Int) (acc : Int), (0 ≤ i ∧ i ≤ mem 80 15) → (acc + zsm (fun n => mem 91 n) (mem 80 15 - i).toNat i = q) → zS zT m_Mo_sectionsAll (0, 0) 4 [some (2, 80), some (0, acc), some (0, i)] [] mem (zQs (fun r m => r = some (0, q) ∧ m = mem)) := by
  intro i acc
  obtain ⟨k9, hk9⟩ : ∃ kq : Nat, (mem 80 15 - i).toNat = kq := ⟨_, rfl⟩
  induction k9 using Nat.strongRecOn generalizing i acc with
  | _ k9 ih =>
    intro i0 i1
    refine zV_iload_n d_Mo_sectionsAll_4 rfl ?_
    refine zV_aload_n d_Mo_sectionsAll_5 rfl ?_
    refine zS_get d_Mo_sectionsAll_6 f_Mo_184 rfl rfl ?_
    refine zV_icmp_ge d_Mo_sectionsAll_9 (by omega) (by omega) (fun c9 => ?_) (fun c9 => ?_)
    · refine zV_iload_n d_Mo_sectionsAll_27 rfl ?_
      exact zS_iret d_Mo_sectionsAll_28 rfl ⟨Nat.zero_le _, Nat.zero_le _⟩ ⟨by rw [← i1, zsm_e (n := mem 80 15) (by omega), Int.add_zero], rfl⟩
    · refine zV_iload_n d_Mo_sectionsAll_12 rfl ?_
      refine zV_aload_n d_Mo_sectionsAll_13 rfl ?_
      refine zS_getr (r := 91) d_Mo_sectionsAll_14 f_Mo_41 rfl rfl rfl ?_
      refine zV_iload_n d_Mo_sectionsAll_17 rfl ?_
      refine zS_iald d_Mo_sectionsAll_18 rfl rfl ⟨by omega, by omega⟩ ?_
      refine zV_iadd d_Mo_sectionsAll_19 ?_
      refine zV_istore_n (L' := [some (2, 80), some (0, (acc + (mem 91 i))), some (0, i)]) d_Mo_sectionsAll_20 (by decide) rfl ?_
      refine zV_iinc (L' := [some (2, 80), some (0, (acc + (mem 91 i))), some (0, (i + 1))]) d_Mo_sectionsAll_21 (by decide) rfl rfl ?_
      refine zV_goto d_Mo_sectionsAll_24 ?_
      refine ih _ (by omega) _ _ rfl (by omega) ?_
      rw [← i1, zsm_s (n := mem 80 15) (i := i) (by omega)]
      omega
def seA (mem : zMem) : Int := zsm (fun n => mem 91 n) (mem 80 15 - 0).toNat 0
theorem s_Mo_sectionsAll (mem : zMem) (hn : 0 ≤ mem 80 15 ∧ mem 80 15 ≤ 25) : zF m_Mo_sectionsAll [(2, 80)] mem (fun r m => r = some (0, seA mem) ∧ m = mem) := by
  refine zF_of (by decide) (Nat.le_of_ble_eq_true rfl) ?_
  show zS zT m_Mo_sectionsAll (0, 0) 0 [some (2, 80), none, none] [] mem _
  refine zV_iconst d_Mo_sectionsAll_0 ?_
  refine zV_istore_n (L' := [some (2, 80), some (0, 0), none]) d_Mo_sectionsAll_1 (by decide) rfl ?_
  refine zV_iconst d_Mo_sectionsAll_2 ?_
  refine zV_istore_n (L' := [some (2, 80), some (0, 0), some (0, 0)]) d_Mo_sectionsAll_3 (by decide) rfl ?_
  exact s_Mo_sectionsAll_l mem hn _ 0 0 (by omega) (by rw [Int.zero_add]; rfl)
/-- nothing is laid where there is no plane -/
def FZ (mem m : zMem) : Prop := (mem 80 2 = 0 ∧ m = mem) ∨ (mem 80 2 ≠ 0 ∧ FRm mem m)
noncomputable def nsA (mem : zMem) : Int := cif (mem 80 2 = 0) 0 (2 * (lpA mem (-1)).1 + 1)
theorem FZ_n {mem m : zMem} (h : mem 80 2 ≠ 0) (hR : FRm mem m) : m 80 15 = nsA mem ∧ 0 ≤ nsA mem ∧ nsA mem ≤ 25 := by
  have e := hR.1.2.2.1
  have a0 := hR.1.1.1
  have a1 := e.1.2.1
  unfold nsA
  rw [cif_f h, e.2.1]
  omega
theorem nsA_0 {mem : zMem} (h : mem 80 2 = 0) : nsA mem = 0 := by unfold nsA; rw [cif_t h]
theorem s_Mo_isStack (mem : zMem) (n : Int) (hn : I32 n) (hK : moK mem) (hO : FRS mem) : zF m_Mo_isStack [(2, 80), (0, n)] mem (fun r m => FZ mem m ∧ r = some (0, zb (0 ≤ n ∧ n < nsA mem))) := by
  have k1 := hK.1
  refine zF_of (by decide) (Nat.le_of_ble_eq_true rfl) ?_
  show zS zT m_Mo_isStack (0, 0) 0 [some (2, 80), some (0, n)] [] mem _
  refine zV_aload_n d_Mo_isStack_0 rfl ?_
  refine zS_invvE (mt' := m_Mo_lacks) (avs := []) (st := []) d_Mo_isStack_1 l_Mo_213 k_Mo_lacks rfl rfl rfl rfl rfl (s_Mo_lacks mem (by omega)) ?_
  show zS zT m_Mo_isStack (0, 0) 4 [some (2, 80), some (0, n)] [(0, (zb (mem 80 2 = 0)))] mem _
  refine zV_ifb_eq d_Mo_isStack_4 (fun c4 => ?_) (fun c4 => ?_)
  · refine zV_aload_n d_Mo_isStack_9 rfl ?_
    refine zS_invv (mt' := m_Mo_freshen) (avs := []) (st := []) d_Mo_isStack_10 l_Mo_217 k_Mo_freshen rfl rfl rfl rfl rfl (s_Mo_freshen mem hK (FRS_T hO (by assumption))) (fun r9 m1 hq9 => ?_)
    obtain ⟨rfl, hR⟩ := hq9
    have hn9 := FZ_n (by assumption) hR
    show zS zT m_Mo_isStack (0, 0) 13 [some (2, 80), some (0, n)] [] m1 _
    refine zV_iload_n d_Mo_isStack_13 rfl ?_
    refine zV_i2l d_Mo_isStack_14 (by omega) ?_
    refine zV_lconst0 d_Mo_isStack_15 ?_
    refine zV_aload_n d_Mo_isStack_16 rfl ?_
    refine zS_get d_Mo_isStack_17 f_Mo_184 rfl rfl ?_
    refine zV_iconst d_Mo_isStack_20 ?_
    refine zV_isub d_Mo_isStack_21 ?_
    refine zV_i2l d_Mo_isStack_22 (by omega) ?_
    refine zS_invsE (mt' := m_Mo_in) (avs := [(1, n), (1, 0), (1, ((m1 80 15) - 1))]) (st := []) d_Mo_isStack_23 l_Mo_80 k_Mo_in rfl rfl rfl rfl (s_Mo_in m1 n 0 ((m1 80 15) - 1) (by omega) (by omega) (by omega)) ?_
    show zS zT m_Mo_isStack (0, 0) 26 [some (2, 80), some (0, n)] [(0, (zb (0 ≤ n ∧ n ≤ ((m1 80 15) - 1))))] m1 _
    exact zS_zret d_Mo_isStack_26 rfl ⟨Nat.zero_le _, Nat.zero_le _⟩ (zb_01 _) (by refine ⟨Or.inr ⟨by assumption, hR⟩, ?_⟩; rw [zb_iff (show (0 ≤ n ∧ n ≤ m1 80 15 - 1) ↔ (0 ≤ n ∧ n < nsA mem) by omega)])
  · refine zV_iconst d_Mo_isStack_7 ?_
    exact zS_zret d_Mo_isStack_8 rfl ⟨Nat.zero_le _, Nat.zero_le _⟩ (Or.inl rfl) (by refine ⟨Or.inl ⟨by assumption, rfl⟩, ?_⟩; rw [zb_f (by rw [nsA_0 (by assumption)]; omega)])
theorem FZ_in {mem m : zMem} {n : Int} (hK : moK mem) (h : FZ mem m) (hn : 0 ≤ n ∧ n < nsA mem) : mem 80 2 ≠ 0 ∧ FRm mem m ∧ okL m ∧ (m 80 15 = nsA mem ∧ nsA mem ≤ 25) ∧ (0 ≤ m 91 n ∧ m 91 n ≤ 4) := by
  rcases h with ⟨h0, rfl⟩ | ⟨h0, hR⟩
  · rw [nsA_0 h0] at hn
    omega
  · have e := FZ_n h0 hR
    have o := ML_ok (FRm_K hR hK) hR.1
    exact ⟨h0, hR, o, ⟨e.1, e.2.2⟩, o.2.2.2.1 n hn.1 (by omega)⟩
theorem s_Mo_stack (mem : zMem) (n : Int) (hn : I32 n) (hK : moK mem) (hO : FRS mem) : zF m_Mo_stack [(2, 80), (0, n)] mem (fun r m => FZ mem m ∧ r = some (0, if 0 ≤ n ∧ n < nsA mem then 2 * m 91 n + 1 else -101)) := by
  refine zF_of (by decide) (Nat.le_of_ble_eq_true rfl) ?_
  show zS zT m_Mo_stack (0, 0) 0 [some (2, 80), some (0, n)] [] mem _
  refine zV_aload_n d_Mo_stack_0 rfl ?_
  refine zV_iload_n d_Mo_stack_1 rfl ?_
  refine zS_invv (mt' := m_Mo_isStack) (avs := [(0, n)]) (st := []) d_Mo_stack_2 l_Mo_220 k_Mo_isStack rfl rfl rfl rfl rfl (s_Mo_isStack mem n hn hK hO) (fun r9 m1 hq9 => ?_)
  obtain ⟨hZ, rfl⟩ := hq9
  show zS zT m_Mo_stack (0, 0) 5 [some (2, 80), some (0, n)] [(0, (zb (0 ≤ n ∧ n < nsA mem)))] m1 _
  refine zV_ifb_eq d_Mo_stack_5 (fun c5 => ?_) (fun c5 => ?_)
  · refine zV_bipush d_Mo_stack_16 ?_
    exact zS_iret d_Mo_stack_18 rfl ⟨Nat.zero_le _, Nat.zero_le _⟩ (by refine ⟨hZ, ?_⟩; first | rw [if_pos (by assumption)] | rw [if_neg (by assumption)])
  · refine zV_aload_n d_Mo_stack_8 rfl ?_
    refine zV_iload_n d_Mo_stack_9 rfl ?_
    refine zS_invvE (mt' := m_Mo_cellsIn) (avs := [(0, n)]) (st := []) d_Mo_stack_10 l_Mo_210 k_Mo_cellsIn rfl rfl rfl rfl rfl (s_Mo_cellsIn m1 n (by have := (FZ_in hK hZ (by assumption)).2.2.2.1; omega)) ?_
    show zS zT m_Mo_stack (0, 0) 13 [some (2, 80), some (0, n)] [(0, (2 * m1 91 n + 1))] m1 _
    refine zV_goto d_Mo_stack_13 ?_
    exact zS_iret d_Mo_stack_18 rfl ⟨Nat.zero_le _, Nat.zero_le _⟩ (by refine ⟨hZ, ?_⟩; first | rw [if_pos (by assumption)] | rw [if_neg (by assumption)])
theorem s_Mo_isCell (mem : zMem) (n j : Int) (hn : I32 n) (hj : I32 j) (hK : moK mem) (hO : FRS mem) : zF m_Mo_isCell [(2, 80), (0, n), (0, j)] mem (fun r m => FZ mem m ∧ r = some (0, zb ((0 ≤ n ∧ n < nsA mem) ∧ 0 ≤ j ∧ j ≤ 2 * m 91 n))) := by
  refine zF_of (by decide) (Nat.le_of_ble_eq_true rfl) ?_
  show zS zT m_Mo_isCell (0, 0) 0 [some (2, 80), some (0, n), some (0, j)] [] mem _
  refine zV_aload_n d_Mo_isCell_0 rfl ?_
  refine zV_iload_n d_Mo_isCell_1 rfl ?_
  refine zS_invv (mt' := m_Mo_isStack) (avs := [(0, n)]) (st := []) d_Mo_isCell_2 l_Mo_220 k_Mo_isStack rfl rfl rfl rfl rfl (s_Mo_isStack mem n hn hK hO) (fun r9 m1 hq9 => ?_)
  obtain ⟨hZ, rfl⟩ := hq9
  show zS zT m_Mo_isCell (0, 0) 5 [some (2, 80), some (0, n), some (0, j)] [(0, (zb (0 ≤ n ∧ n < nsA mem)))] m1 _
  refine zV_ifb_eq d_Mo_isCell_5 (fun c5 => ?_) (fun c5 => ?_)
  · refine zV_iconst d_Mo_isCell_29 ?_
    exact zS_zret d_Mo_isCell_30 rfl ⟨Nat.zero_le _, Nat.zero_le _⟩ (Or.inl rfl) (by refine ⟨hZ, ?_⟩; first | rw [zb_t (by omega)] | rw [zb_f (by omega)])
  · refine zV_iload_n d_Mo_isCell_8 rfl ?_
    refine zV_i2l d_Mo_isCell_9 (by omega) ?_
    refine zV_lconst0 d_Mo_isCell_10 ?_
    refine zV_aload_n d_Mo_isCell_11 rfl ?_
    refine zV_iload_n d_Mo_isCell_12 rfl ?_
    refine zS_invvE (mt' := m_Mo_cellsIn) (avs := [(0, n)]) (st := [(1, 0), (1, j)]) d_Mo_isCell_13 l_Mo_210 k_Mo_cellsIn rfl rfl rfl rfl rfl (s_Mo_cellsIn m1 n (by have := (FZ_in hK hZ (by assumption)).2.2.2.1; omega)) ?_
    show zS zT m_Mo_isCell (0, 0) 16 [some (2, 80), some (0, n), some (0, j)] [(0, (2 * m1 91 n + 1)), (1, 0), (1, j)] m1 _
    refine zV_iconst d_Mo_isCell_16 ?_
    refine zV_isub d_Mo_isCell_17 ?_
    refine zV_i2l d_Mo_isCell_18 (by have hs9 := (FZ_in hK hZ (by assumption)).2.2.2.2; omega) ?_
    refine zS_invsE (mt' := m_Mo_in) (avs := [(1, j), (1, 0), (1, ((2 * m1 91 n + 1) - 1))]) (st := []) d_Mo_isCell_19 l_Mo_80 k_Mo_in rfl rfl rfl rfl (s_Mo_in m1 j 0 ((2 * m1 91 n + 1) - 1) (by omega) (by omega) (by have hs9 := (FZ_in hK hZ (by assumption)).2.2.2.2; omega)) ?_
    show zS zT m_Mo_isCell (0, 0) 22 [some (2, 80), some (0, n), some (0, j)] [(0, (zb (0 ≤ j ∧ j ≤ ((2 * m1 91 n + 1) - 1))))] m1 _
    refine zV_ifb_eq d_Mo_isCell_22 (fun c22 => ?_) (fun c22 => ?_)
    · refine zV_iconst d_Mo_isCell_29 ?_
      exact zS_zret d_Mo_isCell_30 rfl ⟨Nat.zero_le _, Nat.zero_le _⟩ (Or.inl rfl) (by refine ⟨hZ, ?_⟩; first | rw [zb_t (by omega)] | rw [zb_f (by omega)])
    · refine zV_iconst d_Mo_isCell_25 ?_
      refine zV_goto d_Mo_isCell_26 ?_
      exact zS_zret d_Mo_isCell_30 rfl ⟨Nat.zero_le _, Nat.zero_le _⟩ (Or.inr rfl) (by refine ⟨hZ, ?_⟩; first | rw [zb_t (by omega)] | rw [zb_f (by omega)])
def lsM (m : zMem) (n j k : Int) : Int := if m 82 k = 3 then 1 - cmF (mP m (20 + n)) (m 84 k) 1 else cmpI (2 * m 90 (4 * n + k) + 1) j + 1
theorem lsM_r (m : zMem) (n j k : Int) : 0 ≤ lsM m n j k ∧ lsM m n j k ≤ 2 := by
  have a := sg3_3 (1 * (mP m (20 + n)).1 - m 84 k * (mP m (20 + n)).2.2.2) (1 * (mP m (20 + n)).2.1) (mP m (20 + n)).2.2.1
  have b := cmpI_r (2 * m 90 (4 * n + k) + 1) j
  unfold lsM cmF
  split <;> omega
theorem s_Mo_lies (mem : zMem) (n j k : Int) (hL : okL mem) (hn : 0 ≤ n ∧ n < mem 80 15) (hj : I32 j) (hk : 0 ≤ k ∧ k < mem 80 2) : zF m_Mo_lies [(2, 80), (0, n), (0, j), (0, k)] mem (fun r m => r = some (0, lsM mem n j k) ∧ m = mem) := by
  have k1 := hL.1.1
  have k2 := hL.1.2 k hk.1 (by omega)
  have b1 := hL.2.2.1.1
  have r1 := hL.2.2.2.2 n k hn.1 hn.2 hk.1 hk.2
  have c3 := sg3_3 (1 * (mP mem (20 + n)).1 - mem 84 k * (mP mem (20 + n)).2.2.2) (1 * (mP mem (20 + n)).2.1) (mP mem (20 + n)).2.2.1
  have c4 : cmF (mP mem (20 + n)) (mem 84 k) 1 = -1 ∨ cmF (mP mem (20 + n)) (mem 84 k) 1 = 0 ∨ cmF (mP mem (20 + n)) (mem 84 k) 1 = 1 := c3
  refine zF_of (by decide) (Nat.le_of_ble_eq_true rfl) ?_
  show zS zT m_Mo_lies (0, 0) 0 [some (2, 80), some (0, n), some (0, j), some (0, k), none] [] mem _
  refine zV_aload_n d_Mo_lies_0 rfl ?_
  refine zV_iload_n d_Mo_lies_1 rfl ?_
  refine zS_invvE (mt' := m_Mo_isFlat) (avs := [(0, k)]) (st := []) d_Mo_lies_2 l_Mo_173 k_Mo_isFlat rfl rfl rfl rfl rfl (s_Mo_isFlat mem k hL.1 (by omega)) ?_
  show zS zT m_Mo_lies (0, 0) 5 [some (2, 80), some (0, n), some (0, j), some (0, k), none] [(0, (zb (mem 82 k = 3)))] mem _
  refine zV_ifb_eq d_Mo_lies_5 (fun c5 => ?_) (fun c5 => ?_)
  · refine zV_iconst d_Mo_lies_46 ?_
    refine zV_aload_n d_Mo_lies_47 rfl ?_
    refine zS_getr (r := 90) d_Mo_lies_48 f_Mo_38 rfl rfl rfl ?_
    refine zV_iconst d_Mo_lies_51 ?_
    refine zV_iload_n d_Mo_lies_52 rfl ?_
    refine zV_imul d_Mo_lies_53 ?_
    refine zV_iload_n d_Mo_lies_54 rfl ?_
    refine zV_iadd d_Mo_lies_55 ?_
    refine zS_iald d_Mo_lies_56 rfl rfl ⟨by omega, by omega⟩ ?_
    refine zV_imul d_Mo_lies_57 ?_
    refine zV_iconst d_Mo_lies_58 ?_
    refine zV_iadd d_Mo_lies_59 ?_
    refine zV_istore (L' := [some (2, 80), some (0, n), some (0, j), some (0, k), some (0, ((2 * (mem 90 ((4 * n) + k))) + 1))]) d_Mo_lies_60 (by decide) rfl ?_
    refine zV_iload d_Mo_lies_62 rfl ?_
    refine zV_iload_n d_Mo_lies_64 rfl ?_
    refine zV_icmp_ge d_Mo_lies_65 (by omega) (by omega) (fun c65 => ?_) (fun c65 => ?_)
    · refine zV_iload d_Mo_lies_72 rfl ?_
      refine zV_iload_n d_Mo_lies_74 rfl ?_
      refine zV_icmp_ne d_Mo_lies_75 (by omega) (by omega) (fun c75 => ?_) (fun c75 => ?_)
      · refine zV_iconst d_Mo_lies_82 ?_
        exact zS_iret d_Mo_lies_83 rfl ⟨Nat.zero_le _, Nat.zero_le _⟩ (by refine ⟨?_, rfl⟩; unfold lsM cmpI; rw [if_neg (by assumption)]; congr 2; (repeat' split) <;> omega)
      · refine zV_iconst d_Mo_lies_78 ?_
        refine zV_goto d_Mo_lies_79 ?_
        exact zS_iret d_Mo_lies_83 rfl ⟨Nat.zero_le _, Nat.zero_le _⟩ (by refine ⟨?_, rfl⟩; unfold lsM cmpI; rw [if_neg (by assumption)]; congr 2; (repeat' split) <;> omega)
    · refine zV_iconst d_Mo_lies_68 ?_
      refine zV_goto d_Mo_lies_69 ?_
      exact zS_iret d_Mo_lies_83 rfl ⟨Nat.zero_le _, Nat.zero_le _⟩ (by refine ⟨?_, rfl⟩; unfold lsM cmpI; rw [if_neg (by assumption)]; congr 2; (repeat' split) <;> omega)
  · refine zV_aload_n d_Mo_lies_8 rfl ?_
    refine zV_bipush d_Mo_lies_9 ?_
    refine zV_iload_n d_Mo_lies_11 rfl ?_
    refine zV_iadd d_Mo_lies_12 ?_
    refine zV_aload_n d_Mo_lies_13 rfl ?_
    refine zS_getr (r := 84) d_Mo_lies_14 f_Mo_19 rfl rfl rfl ?_
    refine zV_iload_n d_Mo_lies_17 rfl ?_
    refine zS_iald d_Mo_lies_18 rfl rfl ⟨by omega, by omega⟩ ?_
    refine zV_i2l d_Mo_lies_19 (by omega) ?_
    refine zV_lconst1 d_Mo_lies_20 ?_
    refine zS_invvE (mt' := m_Mo_compareTo) (avs := [(0, (20 + n)), (1, (mem 84 k)), (1, 1)]) (st := []) d_Mo_lies_21 l_Mo_152 k_Mo_compareTo rfl rfl rfl rfl rfl (s_Mo_compareTo mem (20 + n) (mem 84 k) 1 (by omega) (hL.2.1 n _ hn.1 hn.2 (by omega) (by omega))) ?_
    show zS zT m_Mo_lies (0, 0) 24 [some (2, 80), some (0, n), some (0, j), some (0, k), none] [(0, (cmF (mP mem (20 + n)) (mem 84 k) 1))] mem _
    refine zV_istore (L' := [some (2, 80), some (0, n), some (0, j), some (0, k), some (0, (cmF (mP mem (20 + n)) (mem 84 k) 1))]) d_Mo_lies_24 (by decide) rfl ?_
    refine zV_iload d_Mo_lies_26 rfl ?_
    refine zV_if_le d_Mo_lies_28 (sg3_i _ _ _) (fun c28 => ?_) (fun c28 => ?_)
    · refine zV_iload d_Mo_lies_35 rfl ?_
      refine zV_if_ne d_Mo_lies_37 (sg3_i _ _ _) (fun c37 => ?_) (fun c37 => ?_)
      · refine zV_iconst d_Mo_lies_44 ?_
        exact zS_iret d_Mo_lies_45 rfl ⟨Nat.zero_le _, Nat.zero_le _⟩ (by refine ⟨?_, rfl⟩; unfold lsM; rw [if_pos (by assumption)]; congr 2; omega)
      · refine zV_iconst d_Mo_lies_40 ?_
        refine zV_goto d_Mo_lies_41 ?_
        exact zS_iret d_Mo_lies_45 rfl ⟨Nat.zero_le _, Nat.zero_le _⟩ (by refine ⟨?_, rfl⟩; unfold lsM; rw [if_pos (by assumption)]; congr 2; omega)
    · refine zV_iconst d_Mo_lies_31 ?_
      refine zV_goto d_Mo_lies_32 ?_
      exact zS_iret d_Mo_lies_45 rfl ⟨Nat.zero_le _, Nat.zero_le _⟩ (by refine ⟨?_, rfl⟩; unfold lsM; rw [if_pos (by assumption)]; congr 2; omega)
theorem s_Mo_cell (mem : zMem) (n j k : Int) (hn : I32 n) (hj : I32 j) (hk : I32 k) (hK : moK mem) (hO : FRS mem) : zF m_Mo_cell [(2, 80), (0, n), (0, j), (0, k)] mem (fun r m => FZ mem m ∧ r = some (0, if ((0 ≤ n ∧ n < nsA mem) ∧ 0 ≤ j ∧ j ≤ 2 * m 91 n) ∧ 0 ≤ k ∧ k < m 80 2 then lsM m n j k else -101)) := by
  refine zF_of (by decide) (Nat.le_of_ble_eq_true rfl) ?_
  show zS zT m_Mo_cell (0, 0) 0 [some (2, 80), some (0, n), some (0, j), some (0, k)] [] mem _
  refine zV_aload_n d_Mo_cell_0 rfl ?_
  refine zV_iload_n d_Mo_cell_1 rfl ?_
  refine zV_iload_n d_Mo_cell_2 rfl ?_
  refine zS_invv (mt' := m_Mo_isCell) (avs := [(0, n), (0, j)]) (st := []) d_Mo_cell_3 l_Mo_223 k_Mo_isCell rfl rfl rfl rfl rfl (s_Mo_isCell mem n j hn hj hK hO) (fun r9 m1 hq9 => ?_)
  obtain ⟨hZ, rfl⟩ := hq9
  show zS zT m_Mo_cell (0, 0) 6 [some (2, 80), some (0, n), some (0, j), some (0, k)] [(0, (zb ((0 ≤ n ∧ n < nsA mem) ∧ 0 ≤ j ∧ j ≤ 2 * m1 91 n)))] m1 _
  refine zV_ifb_eq d_Mo_cell_6 (fun c6 => ?_) (fun c6 => ?_)
  · refine zV_bipush d_Mo_cell_27 ?_
    exact zS_iret d_Mo_cell_29 rfl ⟨Nat.zero_le _, Nat.zero_le _⟩ (by refine ⟨hZ, ?_⟩; first | rw [if_pos (by omega)] | rw [if_neg (by omega)])
  · refine zV_aload_n d_Mo_cell_9 rfl ?_
    refine zV_iload_n d_Mo_cell_10 rfl ?_
    refine zS_invvE (mt' := m_Mo_isCurve) (avs := [(0, k)]) (st := []) d_Mo_cell_11 l_Mo_227 k_Mo_isCurve rfl rfl rfl rfl rfl (s_Mo_isCurve m1 k hk (FRm_K (FZ_in (n := n) hK hZ (by omega)).2.1 hK).1) ?_
    show zS zT m_Mo_cell (0, 0) 14 [some (2, 80), some (0, n), some (0, j), some (0, k)] [(0, (zb (0 ≤ k ∧ k ≤ m1 80 2 - 1)))] m1 _
    refine zV_ifb_eq d_Mo_cell_14 (fun c14 => ?_) (fun c14 => ?_)
    · refine zV_bipush d_Mo_cell_27 ?_
      exact zS_iret d_Mo_cell_29 rfl ⟨Nat.zero_le _, Nat.zero_le _⟩ (by refine ⟨hZ, ?_⟩; first | rw [if_pos (by omega)] | rw [if_neg (by omega)])
    · refine zV_aload_n d_Mo_cell_17 rfl ?_
      refine zV_iload_n d_Mo_cell_18 rfl ?_
      refine zV_iload_n d_Mo_cell_19 rfl ?_
      refine zV_iload_n d_Mo_cell_20 rfl ?_
      refine zS_invvE (mt' := m_Mo_lies) (avs := [(0, n), (0, j), (0, k)]) (st := []) d_Mo_cell_21 l_Mo_230 k_Mo_lies rfl rfl rfl rfl rfl (s_Mo_lies m1 n j k (FZ_in (n := n) hK hZ (by omega)).2.2.1 (by have := (FZ_in (n := n) hK hZ (by omega)).2.2.2.1; omega) hj (by omega)) ?_
      show zS zT m_Mo_cell (0, 0) 24 [some (2, 80), some (0, n), some (0, j), some (0, k)] [(0, (lsM m1 n j k))] m1 _
      refine zV_goto d_Mo_cell_24 ?_
      exact zS_iret d_Mo_cell_29 rfl ⟨Nat.zero_le _, Nat.zero_le _⟩ (by refine ⟨hZ, ?_⟩; first | rw [if_pos (by omega)] | rw [if_neg (by omega)])
