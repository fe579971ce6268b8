/-! the reference: the digest -/
theorem h_mP (m : zMem) (h k : Int) : mP (zup m 80 33 h) k = mP m k := by
  unfold mP
  rw [zup_a (by decide), zup_a (by decide), zup_a (by decide), zup_a (by decide)]
theorem h_a {m : zMem} {h a : Int} (q : a ≠ 80) : zup m 80 33 h a = m a := zup_a q
theorem h_k {m : zMem} {h k : Int} (q : k ≠ 33) : zup m 80 33 h 80 k = m 80 k := zup_k q
theorem h_K {m : zMem} {h : Int} (hK : moK m) : moK (zup m 80 33 h) := moK_u hK (by omega)
theorem h_L {m : zMem} {h : Int} (hL : okL m) : okL (zup m 80 33 h) := by
  obtain ⟨a, b, c, d, e⟩ := hL
  refine ⟨h_K a, ?_, ?_, ?_, ?_⟩
  · intro n x q1 q2 q3 q4; rw [h_k (by decide)] at q2; rw [h_mP]; exact b n x q1 q2 q3 q4
  · refine ⟨by rw [h_k (by decide)]; exact c.1, fun n q1 q2 => ?_⟩; rw [h_k (by decide)] at q2; rw [h_mP]; exact c.2 n q1 q2
  · intro n q1 q2; rw [h_k (by decide)] at q2; rw [h_a (by decide)]; exact d n q1 q2
  · intro n k q1 q2 q3 q4; rw [h_k (by decide)] at q2 q4; rw [h_a (by decide)]; exact e n k q1 q2 q3 q4
theorem h_ls (m : zMem) (h n j k : Int) : lsM (zup m 80 33 h) n j k = lsM m n j k := by
  unfold lsM
  rw [h_mP, h_a (by decide), h_a (by decide), h_a (by decide)]
theorem e_say (m : zMem) (h v : Int) : zF m_Mo_say [(2, 80), (1, v)] (zup m 80 33 h) (fun r m9 => r = none ∧ m9 = zup m 80 33 (31 * h + v)) := by
  have z := s_Mo_say (zup m 80 33 h) v
  rw [zup_s, zup_zz] at z
  exact z
theorem e_cinH {m : zMem} {h n : Int} (hn : 0 ≤ n ∧ n < 40) : zF m_Mo_cellsIn [(2, 80), (0, n)] (zup m 80 33 h) (fun r m9 => r = some (0, 2 * m 91 n + 1) ∧ m9 = zup m 80 33 h) := by
  have z := s_Mo_cellsIn (zup m 80 33 h) n hn
  rw [h_a (by decide)] at z
  exact z
theorem e_lies {m : zMem} {h n j k : Int} (hL : okL m) (hn : 0 ≤ n ∧ n < m 80 15) (hj : I32 j) (hk : 0 ≤ k ∧ k < m 80 2) : zF m_Mo_lies [(2, 80), (0, n), (0, j), (0, k)] (zup m 80 33 h) (fun r m9 => r = some (0, lsM m n j k) ∧ m9 = zup m 80 33 h) := by
  have z := s_Mo_lies (zup m 80 33 h) n j k (h_L hL) (by rw [h_k (by decide)]; exact hn) hj (by rw [h_k (by decide)]; exact hk)
  rw [h_ls] at z
  exact z
def syK (m : zMem) (n j h : Int) : Int := zfo (fun k h => 31 * h + lsM m n j k) (m 80 2 - 0).toNat 0 h
def syJ (m : zMem) (n h : Int) : Int := zfo (fun j h => syK m n j h) (2 * m 91 n + 1 - 0).toNat 0 h
def syS (m : zMem) (h : Int) : Int := zfo (fun n h => syJ m n (31 * h + (2 * m 91 n + 1))) (m 80 15 - 0).toNat 0 h
theorem s_Mo_sayStacks_33 (m : zMem) (hL : okL m) (n j : Int) (hn : 0 ≤ n ∧ n < m 80 15) (hj : 0 ≤ j ∧ j < 100) (q : Int) (Q9 : zQ2) (kk : zS zT m_Mo_sayStacks (0, 0) 59 [some (2, 80), some (0, n), some (0, j), none] [] (zup m 80 33 q) (zQs Q9)) : ∀ (k : Int) (h : Int), (0 ≤ k ∧ k ≤ m 80 2) → (zfo (fun k h => 31 * h + lsM m n j k) (m 80 2 - k).toNat k h = q) → zS zT m_Mo_sayStacks (0, 0) 33 [some (2, 80), some (0, n), some (0, j), some (0, k)] [] (zup m 80 33 h) (zQs (Q9)) := by
  intro k h
  obtain ⟨k9, hk9⟩ : ∃ kq : Nat, (m 80 2 - k).toNat = kq := ⟨_, rfl⟩
  induction k9 using Nat.strongRecOn generalizing k h with
  | _ k9 ih =>
    intro i0 i1
    have k1 := hL.1.1
    have b1 := hL.2.2.1.1
    have lr := lsM_r m n j k
    refine zV_iload_n d_Mo_sayStacks_33 rfl ?_
    refine zV_aload_n d_Mo_sayStacks_34 rfl ?_
    refine zS_get d_Mo_sayStacks_35 f_Mo_103 rfl rfl ?_
    rw [show (zup m 80 33 h) 80 2 = (m 80 2) from zup_k (by omega)]
    refine zV_icmp_ge d_Mo_sayStacks_38 (by omega) (by omega) (fun c38 => ?_) (fun c38 => ?_)
    · refine zV_forget (L' := [some (2, 80), some (0, n), some (0, j), none]) (by simp [zle]) ?_
      rw [zfo_e (n := m 80 2) (by omega)] at i1
      rw [i1]
      exact kk
    · refine zV_aload_n d_Mo_sayStacks_41 rfl ?_
      refine zV_aload_n d_Mo_sayStacks_42 rfl ?_
      refine zV_iload_n d_Mo_sayStacks_43 rfl ?_
      refine zV_iload_n d_Mo_sayStacks_44 rfl ?_
      refine zV_iload_n d_Mo_sayStacks_45 rfl ?_
      refine zS_invvE (mt' := m_Mo_lies) (avs := [(0, n), (0, j), (0, k)]) (st := [(2, 80)]) d_Mo_sayStacks_46 l_Mo_230 k_Mo_lies rfl rfl rfl rfl rfl (e_lies (m := m) (h := h) (n := n) (j := j) (k := k) hL (by omega) (by omega) (by omega)) ?_
      show zS zT m_Mo_sayStacks (0, 0) 49 [some (2, 80), some (0, n), some (0, j), some (0, k)] [(0, (lsM m n j k)), (2, 80)] (zup m 80 33 h) _
      refine zV_i2l d_Mo_sayStacks_49 (by omega) ?_
      refine zS_invvE (mt' := m_Mo_say) (avs := [(1, (lsM m n j k))]) (st := []) d_Mo_sayStacks_50 l_Mo_347 k_Mo_say rfl rfl rfl rfl rfl (e_say m h (lsM m n j k)) ?_
      show zS zT m_Mo_sayStacks (0, 0) 53 [some (2, 80), some (0, n), some (0, j), some (0, k)] [] (zup m 80 33 (31 * h + (lsM m n j k))) _
      refine zV_iinc (L' := [some (2, 80), some (0, n), some (0, j), some (0, (k + 1))]) d_Mo_sayStacks_53 (by decide) rfl rfl ?_
      refine zV_goto d_Mo_sayStacks_56 ?_
      refine ih _ (by omega) (k + 1) _ rfl (by omega) ?_
      rw [← i1, zfo_s (n := m 80 2) (i := k) (by omega)]
theorem s_Mo_sayStacks_59 (mem : zMem) (n j : Int) (hj : 0 ≤ j ∧ j < 100) (Q9 : zQ2) (kk : zS zT m_Mo_sayStacks (0, 0) 22 [some (2, 80), some (0, n), some (0, (j + 1)), none] [] mem (zQs Q9)) : zS zT m_Mo_sayStacks (0, 0) 59 [some (2, 80), some (0, n), some (0, j), none] [] mem (zQs Q9) := by
  refine zV_iinc (L' := [some (2, 80), some (0, n), some (0, (j + 1)), none]) d_Mo_sayStacks_59 (by decide) rfl rfl ?_
  refine zV_goto d_Mo_sayStacks_62 ?_
  exact kk
theorem s_Mo_sayStacks_65 (mem : zMem) (n : Int) (hn : 0 ≤ n ∧ n < 100) (Q9 : zQ2) (kk : zS zT m_Mo_sayStacks (0, 0) 2 [some (2, 80), some (0, (n + 1)), none, none] [] mem (zQs Q9)) : zS zT m_Mo_sayStacks (0, 0) 65 [some (2, 80), some (0, n), none, none] [] mem (zQs Q9) := by
  refine zV_iinc (L' := [some (2, 80), some (0, (n + 1)), none, none]) d_Mo_sayStacks_65 (by decide) rfl rfl ?_
  refine zV_goto d_Mo_sayStacks_68 ?_
  exact kk
theorem s_Mo_sayStacks_22 (m : zMem) (hL : okL m) (n : Int) (hn : 0 ≤ n ∧ n < m 80 15) (q : Int) (Q9 : zQ2) (kk : zS zT m_Mo_sayStacks (0, 0) 65 [some (2, 80), some (0, n), none, none] [] (zup m 80 33 q) (zQs Q9)) : ∀ (j : Int) (h : Int), (0 ≤ j ∧ j ≤ 2 * m 91 n + 1) → (zfo (fun j h => syK m n j h) (2 * m 91 n + 1 - j).toNat j h = q) → zS zT m_Mo_sayStacks (0, 0) 22 [some (2, 80), some (0, n), some (0, j), none] [] (zup m 80 33 h) (zQs (Q9)) := by
  intro j h
  obtain ⟨k9, hk9⟩ : ∃ kq : Nat, (2 * m 91 n + 1 - j).toNat = kq := ⟨_, rfl⟩
  induction k9 using Nat.strongRecOn generalizing j h with
  | _ k9 ih =>
    intro i0 i1
    have k1 := hL.1.1
    have b1 := hL.2.2.1.1
    have s1 := hL.2.2.2.1 n hn.1 hn.2
    refine zV_iload_n d_Mo_sayStacks_22 rfl ?_
    refine zV_aload_n d_Mo_sayStacks_23 rfl ?_
    refine zV_iload_n d_Mo_sayStacks_24 rfl ?_
    refine zS_invvE (mt' := m_Mo_cellsIn) (avs := [(0, n)]) (st := [(0, j)]) d_Mo_sayStacks_25 l_Mo_210 k_Mo_cellsIn rfl rfl rfl rfl rfl (e_cinH (m := m) (h := h) (n := n) (by omega)) ?_
    show zS zT m_Mo_sayStacks (0, 0) 28 [some (2, 80), some (0, n), some (0, j), none] [(0, (2 * m 91 n + 1)), (0, j)] (zup m 80 33 h) _
    refine zV_icmp_ge d_Mo_sayStacks_28 (by omega) (by omega) (fun c28 => ?_) (fun c28 => ?_)
    · refine zV_forget (L' := [some (2, 80), some (0, n), none, none]) (by simp [zle]) ?_
      rw [zfo_e (n := 2 * m 91 n + 1) (by omega)] at i1
      rw [i1]
      exact kk
    · refine zV_iconst d_Mo_sayStacks_31 ?_
      refine zV_istore_n (L' := [some (2, 80), some (0, n), some (0, j), some (0, 0)]) d_Mo_sayStacks_32 (by decide) rfl ?_
      refine s_Mo_sayStacks_33 m hL n j hn (by omega) (syK m n j h) _ ?_ 0 h (by omega) rfl
      refine s_Mo_sayStacks_59 _ n j (by omega) _ (ih _ (by omega) (j + 1) _ rfl (by omega) ?_)
      rw [← i1, zfo_s (n := 2 * m 91 n + 1) (i := j) (by omega)]
theorem s_Mo_sayStacks_2 (m : zMem) (hL : okL m) (q : Int) : ∀ (n : Int) (h : Int), (0 ≤ n ∧ n ≤ m 80 15) → (zfo (fun n h => syJ m n (31 * h + (2 * m 91 n + 1))) (m 80 15 - n).toNat n h = q) → zS zT m_Mo_sayStacks (0, 0) 2 [some (2, 80), some (0, n), none, none] [] (zup m 80 33 h) (zQs (fun r m9 => r = none ∧ m9 = zup m 80 33 q)) := by
  intro n h
  obtain ⟨k9, hk9⟩ : ∃ kq : Nat, (m 80 15 - n).toNat = kq := ⟨_, rfl⟩
  induction k9 using Nat.strongRecOn generalizing n h with
  | _ k9 ih =>
    intro i0 i1
    have b1 := hL.2.2.1.1
    have s1 := hL.2.2.2.1 n i0.1
    refine zV_iload_n d_Mo_sayStacks_2 rfl ?_
    refine zV_aload_n d_Mo_sayStacks_3 rfl ?_
    refine zS_get d_Mo_sayStacks_4 f_Mo_184 rfl rfl ?_
    rw [show (zup m 80 33 h) 80 15 = (m 80 15) from zup_k (by omega)]
    refine zV_icmp_ge d_Mo_sayStacks_7 (by omega) (by omega) (fun c7 => ?_) (fun c7 => ?_)
    · exact zS_vret d_Mo_sayStacks_71 rfl ⟨Nat.zero_le _, Nat.zero_le _⟩ ⟨rfl, by rw [zfo_e (n := m 80 15) (by omega)] at i1; rw [i1]⟩
    · refine zV_aload_n d_Mo_sayStacks_10 rfl ?_
      refine zV_aload_n d_Mo_sayStacks_11 rfl ?_
      refine zV_iload_n d_Mo_sayStacks_12 rfl ?_
      refine zS_invvE (mt' := m_Mo_cellsIn) (avs := [(0, n)]) (st := [(2, 80)]) d_Mo_sayStacks_13 l_Mo_210 k_Mo_cellsIn rfl rfl rfl rfl rfl (e_cinH (m := m) (h := h) (n := n) (by omega)) ?_
      show zS zT m_Mo_sayStacks (0, 0) 16 [some (2, 80), some (0, n), none, none] [(0, (2 * m 91 n + 1)), (2, 80)] (zup m 80 33 h) _
      refine zV_i2l d_Mo_sayStacks_16 (by omega) ?_
      refine zS_invvE (mt' := m_Mo_say) (avs := [(1, (2 * m 91 n + 1))]) (st := []) d_Mo_sayStacks_17 l_Mo_347 k_Mo_say rfl rfl rfl rfl rfl (e_say m h (2 * m 91 n + 1)) ?_
      show zS zT m_Mo_sayStacks (0, 0) 20 [some (2, 80), some (0, n), none, none] [] (zup m 80 33 (31 * h + (2 * m 91 n + 1))) _
      refine zV_iconst d_Mo_sayStacks_20 ?_
      refine zV_istore_n (L' := [some (2, 80), some (0, n), some (0, 0), none]) d_Mo_sayStacks_21 (by decide) rfl ?_
      have s2 := s1 (by omega)
      refine s_Mo_sayStacks_22 m hL n ⟨i0.1, by omega⟩ (syJ m n (31 * h + (2 * m 91 n + 1))) _ ?_ 0 _ (by omega) rfl
      refine s_Mo_sayStacks_65 _ n (by omega) _ (ih _ (by omega) (n + 1) _ rfl (by omega) ?_)
      rw [← i1, zfo_s (n := m 80 15) (i := n) (by omega)]
theorem e_sayS {m : zMem} {h : Int} (hL : okL m) : zF m_Mo_sayStacks [(2, 80)] (zup m 80 33 h) (fun r m9 => r = none ∧ m9 = zup m 80 33 (syS m h)) := by
  have b1 := hL.2.2.1.1
  refine zF_of (by decide) (Nat.le_of_ble_eq_true rfl) ?_
  show zS zT m_Mo_sayStacks (0, 0) 0 [some (2, 80), none, none, none] [] (zup m 80 33 h) _
  refine zV_iconst d_Mo_sayStacks_0 ?_
  refine zV_istore_n (L' := [some (2, 80), some (0, 0), none, none]) d_Mo_sayStacks_1 (by decide) rfl ?_
  exact s_Mo_sayStacks_2 m hL (syS m h) 0 h (by omega) rfl
def eqv (mem m : zMem) : Prop := (∀ a, a ≠ 80 → (a < 86 ∨ 91 < a) → a ≠ 93 → m a = mem a) ∧ ∀ k, k ≠ 9 → k ≠ 14 → k ≠ 15 → k ≠ 33 → m 80 k = mem 80 k
def DZ (mem m : zMem) : Prop := eqv mem m ∧ FRS m ∧ (mem 80 2 ≠ 0 → ML m (-1) (lpA mem (-1)))
theorem eqv_r (m : zMem) : eqv m m := ⟨fun _ _ _ _ => rfl, fun _ _ _ _ _ => rfl⟩
theorem eqv_t {a b c : zMem} (h : eqv a b) (h' : eqv b c) : eqv a c := ⟨fun x q1 q2 q3 => (h'.1 x q1 q2 q3).trans (h.1 x q1 q2 q3), fun k q1 q2 q3 q4 => (h'.2 k q1 q2 q3 q4).trans (h.2 k q1 q2 q3 q4)⟩
theorem eqv_h (m : zMem) (h : Int) : eqv m (zup m 80 33 h) := ⟨fun a q _ _ => zup_a q, fun k _ _ _ q => zup_k q⟩
theorem eqv_f {m m1 : zMem} (h : frF m m1) : eqv m m1 := ⟨fun a q1 q2 _ => h.1 a q1 q2, fun k q1 q2 q3 _ => h.2 k q1 q2 q3⟩
theorem eqv_A {mem m : zMem} (h : eqv mem m) (out : Int) : lpA m out = lpA mem out := lpA_cg (h.1 82 (by decide) (by omega) (by decide)) (h.1 83 (by decide) (by omega) (by decide)) (h.1 84 (by decide) (by omega) (by decide)) (h.2 2 (by decide) (by decide) (by decide) (by decide)) out
theorem eqv_K {mem m : zMem} (h : eqv mem m) (hK : moK mem) : moK m := by
  unfold moK
  rw [h.1 82 (by decide) (by omega) (by decide), h.1 83 (by decide) (by omega) (by decide), h.1 84 (by decide) (by omega) (by decide), h.2 2 (by decide) (by decide) (by decide) (by decide)]
  exact hK
theorem ML_h {m : zMem} {h out : Int} {s : PtS} (hM : ML m out s) : ML (zup m 80 33 h) out s := ML_cg (fun a q1 q2 => zup_a (by omega)) (zup_k (by decide)) (zup_k (by decide)) (zup_k (by decide)) hM
theorem FRS_h {m : zMem} {h : Int} (hO : FRS m) : FRS (zup m 80 33 h) := by
  obtain ⟨a, b⟩ := hO
  refine ⟨by rw [zup_k (by decide)]; exact a, fun q q2 => ?_⟩
  rw [zup_k (by decide)] at q q2
  rw [eqv_A (eqv_h m h)]
  exact ML_h (b q q2)
theorem DZ_h {mem m : zMem} {h : Int} (hD : DZ mem m) : DZ mem (zup m 80 33 h) := ⟨eqv_t hD.1 (eqv_h m h), FRS_h hD.2.1, fun q => ML_h (hD.2.2 q)⟩
theorem DZ_f {mem m m1 : zMem} (hD : DZ mem m) (h : FRm m m1) : DZ mem m1 := ⟨eqv_t hD.1 (eqv_f h.2.1), FRm_S h, fun _ => by rw [← eqv_A hD.1]; exact h.1⟩
theorem DZ_z {mem m m1 : zMem} (hD : DZ mem m) (h : FZ m m1) : DZ mem m1 := by
  rcases h with ⟨_, rfl⟩ | ⟨_, h⟩
  · exact hD
  · exact DZ_f hD h
theorem DZ_p {mem m m1 : zMem} (hD : DZ mem m) (h : rdP m m1) : DZ mem m1 := by
  have e : eqv m m1 := ⟨fun a _ _ q => h a q, fun k _ _ _ _ => by rw [h 80 (by decide)]⟩
  have e80 := h 80 (by decide)
  have cg : ∀ s, ML m (-1) s → ML m1 (-1) s := fun s z => ML_cg (fun a q1 q2 => h a (by omega)) (by rw [e80]) (by rw [e80]) (by rw [e80]) z
  exact ⟨eqv_t hD.1 e, ⟨by rw [e80]; exact hD.2.1.1, fun q q2 => by rw [e80] at q q2; rw [eqv_A e]; exact cg _ (hD.2.1.2 q q2)⟩, fun q => cg _ (hD.2.2 q)⟩
theorem h_cu (m : zMem) (h k w : Int) : cuM (zup m 80 33 h) k w = cuM m k w := by
  unfold cuM cbM cbQ
  rw [h_k (by decide), h_a (by decide), h_a (by decide), h_a (by decide), h_a (by decide), h_a (by decide)]
theorem h_S {m : zMem} {h : Int} (hS : okSM m) : okSM (zup m 80 33 h) := by
  unfold okSM
  rw [h_k (by decide), h_a (by decide)]
  exact hS
theorem e_tell {m : zMem} {h k w : Int} (hK : moK m) (hS : okSM m) (hk : 0 ≤ k ∧ k < 4) (hw : I32 w) : zF m_Mo_tellCurve [(2, 80), (0, k), (0, w)] (zup m 80 33 h) (fun r m9 => r = some (0, cuM m k w) ∧ m9 = zup m 80 33 h) := by
  have z := s_Mo_tellCurve (zup m 80 33 h) k w (h_K hK) (h_S hS) hk hw
  rw [h_cu] at z
  exact z
theorem h_tp (m : zMem) (h p w : Int) : tpM (zup m 80 33 h) p w = tpM m p w := by
  unfold tpM meS meR stS mtM smP dfM
  rw [h_k (by decide), h_mP, h_a (by decide), h_a (by decide), h_a (by decide)]
theorem e_tellP {m : zMem} {h p w : Int} (hK : moK m) (hp : 0 ≤ p ∧ p < 64) (hQ : okQ (mP m p)) (hN : okN (mP m p)) (hw : I32 w) : zF m_Mo_tellPoint [(2, 80), (0, p), (0, w)] (zup m 80 33 h) (fun r m9 => r = some (0, tpM m p w) ∧ m9 = zup m 80 33 h) := by
  have z := s_Mo_tellPoint (zup m 80 33 h) p (h_K hK) hp (by rw [h_mP]; exact hQ) (by rw [h_mP]; exact hN) w hw
  rw [h_tp] at z
  exact z
theorem cuM_i {m : zMem} {k w : Int} (hK : moK m) (hN : ∀ k, 0 ≤ k → k < 4 → I32 (m 85 k)) (hk : 0 ≤ k ∧ k < 4) : I32 (cuM m k w) := by
  have h1 := hK.2 k hk.1 hk.2
  have h2 := hN k hk.1 hk.2
  have h3 := srt_r (fun kd => cbM m k kd)
  have h4 := asX_r (srt (fun kd => cbM m k kd)) (m 83 k) (m 84 k)
  unfold cuM
  (repeat' split) <;> omega
theorem zup_self {m : zMem} {a k v : Int} (h : m a k = v) : m = zup m a k v := by
  funext x y
  unfold zup
  by_cases e : x = a ∧ y = k
  · rw [if_pos e, e.1, e.2, h]
  · rw [if_neg e]
theorem s_Mo_digest_19 (mem : zMem) (hK : moK mem) (hS : okSM mem) (hN : ∀ k, 0 ≤ k → k < 4 → I32 (mem 85 k)) (k : Int) (hk : 0 ≤ k ∧ k < mem 80 2) (q : Int) (Q9 : zQ2) (kk : zS zT m_Mo_digest (0, 0) 42 [some (2, 80), some (0, k), none] [] (zup mem 80 33 q) (zQs Q9)) : ∀ (w : Int) (h : Int), (0 ≤ w ∧ w ≤ 6) → (zfo (fun w h => 31 * h + cuM mem k w) (6 - w).toNat w h = q) → zS zT m_Mo_digest (0, 0) 19 [some (2, 80), some (0, k), some (0, w)] [] (zup mem 80 33 h) (zQs (Q9)) := by
  intro w h
  obtain ⟨k9, hk9⟩ : ∃ kq : Nat, (6 - w).toNat = kq := ⟨_, rfl⟩
  induction k9 using Nat.strongRecOn generalizing w h with
  | _ k9 ih =>
    intro i0 i1
    have k1 := hK.1
    refine zV_iload_n d_Mo_digest_19 rfl ?_
    refine zV_bipush d_Mo_digest_20 ?_
    refine zV_icmp_ge d_Mo_digest_22 (by omega) (by omega) (fun c22 => ?_) (fun c22 => ?_)
    · refine zV_forget (L' := [some (2, 80), some (0, k), none]) (by simp [zle]) ?_
      rw [zfo_e (n := 6) (by omega)] at i1
      rw [i1]
      exact kk
    · refine zV_aload_n d_Mo_digest_25 rfl ?_
      refine zV_aload_n d_Mo_digest_26 rfl ?_
      refine zV_iload_n d_Mo_digest_27 rfl ?_
      refine zV_iload_n d_Mo_digest_28 rfl ?_
      refine zS_invvE (mt' := m_Mo_tellCurve) (avs := [(0, k), (0, w)]) (st := [(2, 80)]) d_Mo_digest_29 l_Mo_281 k_Mo_tellCurve rfl rfl rfl rfl rfl (e_tell (m := mem) (h := h) (k := k) (w := w) hK hS (by omega) (by omega)) ?_
      show zS zT m_Mo_digest (0, 0) 32 [some (2, 80), some (0, k), some (0, w)] [(0, (cuM mem k w)), (2, 80)] (zup mem 80 33 h) _
      refine zV_i2l d_Mo_digest_32 (cuM_i hK hN (by omega)) ?_
      refine zS_invvE (mt' := m_Mo_say) (avs := [(1, (cuM mem k w))]) (st := []) d_Mo_digest_33 l_Mo_347 k_Mo_say rfl rfl rfl rfl rfl (e_say mem h (cuM mem k w)) ?_
      show zS zT m_Mo_digest (0, 0) 36 [some (2, 80), some (0, k), some (0, w)] [] (zup mem 80 33 (31 * h + (cuM mem k w))) _
      refine zV_iinc (L' := [some (2, 80), some (0, k), some (0, (w + 1))]) d_Mo_digest_36 (by decide) rfl rfl ?_
      refine zV_goto d_Mo_digest_39 ?_
      refine ih _ (by omega) (w + 1) _ rfl (by omega) ?_
      rw [← i1, zfo_s (n := 6) (i := w) (by omega)]
theorem s_Mo_digest_42 (mem : zMem) (k : Int) (hk : 0 ≤ k ∧ k < 100) (Q9 : zQ2) (kk : zS zT m_Mo_digest (0, 0) 9 [some (2, 80), some (0, (k + 1)), none] [] mem (zQs Q9)) : zS zT m_Mo_digest (0, 0) 42 [some (2, 80), some (0, k), none] [] mem (zQs Q9) := by
  refine zV_iinc (L' := [some (2, 80), some (0, (k + 1)), none]) d_Mo_digest_42 (by decide) rfl rfl ?_
  refine zV_goto d_Mo_digest_45 ?_
  exact kk
theorem s_Mo_digest_93 (mem : zMem) (k : Int) (hk : 0 ≤ k ∧ k < 100) (Q9 : zQ2) (kk : zS zT m_Mo_digest (0, 0) 61 [some (2, 80), some (0, (k + 1)), none] [] mem (zQs Q9)) : zS zT m_Mo_digest (0, 0) 93 [some (2, 80), some (0, k), none] [] mem (zQs Q9) := by
  refine zV_iinc (L' := [some (2, 80), some (0, (k + 1)), none]) d_Mo_digest_93 (by decide) rfl rfl ?_
  refine zV_goto d_Mo_digest_96 ?_
  exact kk
noncomputable def dxC (mem : zMem) : Int := zfo (fun k h => zfo (fun w h => 31 * h + cuM mem k w) (6 - 0 : Int).toNat 0 h) (mem 80 2 - 0).toNat 0 1433
theorem s_Mo_digest_9 (mem : zMem) (hK : moK mem) (hS : okSM mem) (hN : ∀ k, 0 ≤ k → k < 4 → I32 (mem 85 k)) (q : Int) (Q9 : zQ2) (kk : zS zT m_Mo_digest (0, 0) 48 [some (2, 80), none, none] [] (zup mem 80 33 q) (zQs Q9)) : ∀ (k : Int) (h : Int), (0 ≤ k ∧ k ≤ mem 80 2) → (zfo (fun k h => zfo (fun w h => 31 * h + cuM mem k w) (6 - 0 : Int).toNat 0 h) (mem 80 2 - k).toNat k h = q) → zS zT m_Mo_digest (0, 0) 9 [some (2, 80), some (0, k), none] [] (zup mem 80 33 h) (zQs (Q9)) := by
  intro k h
  obtain ⟨k9, hk9⟩ : ∃ kq : Nat, (mem 80 2 - k).toNat = kq := ⟨_, rfl⟩
  induction k9 using Nat.strongRecOn generalizing k h with
  | _ k9 ih =>
    intro i0 i1
    have k1 := hK.1
    refine zV_iload_n d_Mo_digest_9 rfl ?_
    refine zV_aload_n d_Mo_digest_10 rfl ?_
    refine zS_get d_Mo_digest_11 f_Mo_103 rfl rfl ?_
    rw [show (zup mem 80 33 h) 80 2 = (mem 80 2) from zup_k (by omega)]
    refine zV_icmp_ge d_Mo_digest_14 (by omega) (by omega) (fun c14 => ?_) (fun c14 => ?_)
    · refine zV_forget (L' := [some (2, 80), none, none]) (by simp [zle]) ?_
      rw [zfo_e (n := mem 80 2) (by omega)] at i1
      rw [i1]
      exact kk
    · refine zV_iconst d_Mo_digest_17 ?_
      refine zV_istore_n (L' := [some (2, 80), some (0, k), some (0, 0)]) d_Mo_digest_18 (by decide) rfl ?_
      refine s_Mo_digest_19 mem hK hS hN k ⟨i0.1, by omega⟩ _ _ ?_ 0 h (by omega) rfl
      refine s_Mo_digest_42 _ k (by omega) _ (ih _ (by omega) (k + 1) _ rfl (by omega) ?_)
      rw [← i1, zfo_s (n := mem 80 2) (i := k) (by omega)]
theorem s_Mo_digest_71 (mem m : zMem) (hK : moK mem) (hD : DZ mem m) (hne : mem 80 2 ≠ 0) (TX : Int → Int → Int) (hT : ∀ m p w, DZ mem m → 0 ≤ p → p < (lpA mem (-1)).1 → 0 ≤ w → w ≤ 3 → tpM m p w = TX p w ∧ I32 (TX p w)) (p : Int) (hp : 0 ≤ p ∧ p < (lpA mem (-1)).1) (q : Int) (Q9 : zQ2) (kk : zS zT m_Mo_digest (0, 0) 93 [some (2, 80), some (0, p), none] [] (zup m 80 33 q) (zQs Q9)) : ∀ (w : Int) (h : Int), (0 ≤ w ∧ w ≤ 4) → (zfo (fun w h => 31 * h + TX p w) (4 - w).toNat w h = q) → zS zT m_Mo_digest (0, 0) 71 [some (2, 80), some (0, p), some (0, w)] [] (zup m 80 33 h) (zQs (Q9)) := by
  intro w h
  obtain ⟨k9, hk9⟩ : ∃ kq : Nat, (4 - w).toNat = kq := ⟨_, rfl⟩
  induction k9 using Nat.strongRecOn generalizing w h with
  | _ k9 ih =>
    intro i0 i1
    have hpt := ML_pt (hD.2.2 hne)
    have tx := hT m p w hD hp.1 hp.2 i0.1
    refine zV_iload_n d_Mo_digest_71 rfl ?_
    refine zV_iconst d_Mo_digest_72 ?_
    refine zV_icmp_ge d_Mo_digest_73 (by omega) (by omega) (fun c73 => ?_) (fun c73 => ?_)
    · refine zV_forget (L' := [some (2, 80), some (0, p), none]) (by simp [zle]) ?_
      rw [zfo_e (n := 4) (by omega)] at i1
      rw [i1]
      exact kk
    · refine zV_aload_n d_Mo_digest_76 rfl ?_
      refine zV_aload_n d_Mo_digest_77 rfl ?_
      refine zV_iload_n d_Mo_digest_78 rfl ?_
      refine zV_iload_n d_Mo_digest_79 rfl ?_
      refine zS_invvE (mt' := m_Mo_tellPoint) (avs := [(0, p), (0, w)]) (st := [(2, 80)]) d_Mo_digest_80 l_Mo_298 k_Mo_tellPoint rfl rfl rfl rfl rfl (e_tellP (m := m) (h := h) (p := p) (w := w) (eqv_K hD.1 hK) (by omega) (hpt.2.2.2 p (by omega) (by omega)).2 (by rw [(hpt.2.2.2 p (by omega) (by omega)).1]; exact lpA_N mem (-1) p (by omega) (by omega)) (by omega)) ?_
      show zS zT m_Mo_digest (0, 0) 83 [some (2, 80), some (0, p), some (0, w)] [(0, (tpM m p w)), (2, 80)] (zup m 80 33 h) _
      refine zV_i2l d_Mo_digest_83 (by rw [(tx (by omega)).1]; exact (tx (by omega)).2) ?_
      refine zS_invvE (mt' := m_Mo_say) (avs := [(1, (tpM m p w))]) (st := []) d_Mo_digest_84 l_Mo_347 k_Mo_say rfl rfl rfl rfl rfl (e_say m h (tpM m p w)) ?_
      show zS zT m_Mo_digest (0, 0) 87 [some (2, 80), some (0, p), some (0, w)] [] (zup m 80 33 (31 * h + (tpM m p w))) _
      refine zV_iinc (L' := [some (2, 80), some (0, p), some (0, (w + 1))]) d_Mo_digest_87 (by decide) rfl rfl ?_
      refine zV_goto d_Mo_digest_90 ?_
      refine ih _ (by omega) (w + 1) _ rfl (by omega) ?_
      rw [(tx (by omega)).1, ← i1, zfo_s (n := 4) (i := w) (by omega)]
theorem s_Mo_digest_61 (mem m : zMem) (hK : moK mem) (hD : DZ mem m) (hne : mem 80 2 ≠ 0) (TX : Int → Int → Int) (hT : ∀ m p w, DZ mem m → 0 ≤ p → p < (lpA mem (-1)).1 → 0 ≤ w → w ≤ 3 → tpM m p w = TX p w ∧ I32 (TX p w)) (q : Int) (Q9 : zQ2) (kk : zS zT m_Mo_digest (0, 0) 99 [some (2, 80), none, none] [] (zup m 80 33 q) (zQs Q9)) : ∀ (p : Int) (h : Int), (0 ≤ p ∧ p ≤ (lpA mem (-1)).1) → (zfo (fun p h => zfo (fun w h => 31 * h + TX p w) (4 - 0 : Int).toNat 0 h) ((lpA mem (-1)).1 - p).toNat p h = q) → zS zT m_Mo_digest (0, 0) 61 [some (2, 80), some (0, p), none] [] (zup m 80 33 h) (zQs (Q9)) := by
  intro p h
  obtain ⟨k9, hk9⟩ : ∃ kq : Nat, ((lpA mem (-1)).1 - p).toNat = kq := ⟨_, rfl⟩
  induction k9 using Nat.strongRecOn generalizing p h with
  | _ k9 ih =>
    intro i0 i1
    have hpt := ML_pt (hD.2.2 hne)
    refine zV_iload_n d_Mo_digest_61 rfl ?_
    refine zV_aload_n d_Mo_digest_62 rfl ?_
    refine zS_get d_Mo_digest_63 f_Mo_156 rfl rfl ?_
    rw [show (zup m 80 33 h) 80 14 = (m 80 14) from zup_k (by omega)]
    refine zV_icmp_ge d_Mo_digest_66 (by omega) (by omega) (fun c66 => ?_) (fun c66 => ?_)
    · refine zV_forget (L' := [some (2, 80), none, none]) (by simp [zle]) ?_
      rw [zfo_e (n := (lpA mem (-1)).1) (by omega)] at i1
      rw [i1]
      exact kk
    · refine zV_iconst d_Mo_digest_69 ?_
      refine zV_istore_n (L' := [some (2, 80), some (0, p), some (0, 0)]) d_Mo_digest_70 (by decide) rfl ?_
      refine s_Mo_digest_71 mem m hK hD hne TX hT p ⟨i0.1, by omega⟩ _ _ ?_ 0 h (by omega) rfl
      refine s_Mo_digest_93 _ p (by omega) _ (ih _ (by omega) (p + 1) _ rfl (by omega) ?_)
      rw [← i1, zfo_s (n := (lpA mem (-1)).1) (i := p) (by omega)]
theorem s_Mo_digest_172 (mem : zMem) (hK : moK mem) (h20 : 0 ≤ mem 80 20 ∧ mem 80 20 ≤ 8) (hRg : ∀ i, 0 ≤ i → i < 8 → 0 ≤ mem 92 i ∧ mem 92 i ≤ 1) (hn : 0 ≤ mem 80 1 ∧ mem 80 1 ≤ 24) (hc : ∀ i, 0 ≤ i → i < mem 80 1 → 0 ≤ mem 81 i ∧ mem 81 i ≤ 126) (CX : Int → Int) (hC : ∀ m w, DZ mem m → 0 ≤ w → w ≤ 10 → cnM m w = CX w ∧ I32 (CX w)) (q : Int) : ∀ (w : Int) (m : zMem) (h : Int), (0 ≤ w ∧ w ≤ 11) → (DZ mem m) → (zfo (fun w h => 31 * h + CX w) (11 - w).toNat w h = q) → zS zT m_Mo_digest (0, 0) 172 [some (2, 80), some (0, w), none] [] (zup m 80 33 h) (zQs (fun r m => r = some (1, q) ∧ DZ mem m)) := by
  intro w m h
  obtain ⟨k9, hk9⟩ : ∃ kq : Nat, (11 - w).toNat = kq := ⟨_, rfl⟩
  induction k9 using Nat.strongRecOn generalizing w m h with
  | _ k9 ih =>
    intro i0 i1 i2
    refine zV_iload_n d_Mo_digest_172 rfl ?_
    refine zV_bipush d_Mo_digest_173 ?_
    refine zV_icmp_ge d_Mo_digest_175 (by omega) (by omega) (fun c175 => ?_) (fun c175 => ?_)
    · refine zV_aload_n d_Mo_digest_194 rfl ?_
      refine zS_get d_Mo_digest_195 f_Mo_343 rfl rfl ?_
      rw [show (zup m 80 33 h) 80 33 = h from zup_s]
      exact zS_lret d_Mo_digest_198 rfl ⟨Nat.zero_le _, Nat.zero_le _⟩ ⟨by rw [zfo_e (n := 11) (by omega)] at i2; rw [i2], DZ_h i1⟩
    · refine zV_aload_n d_Mo_digest_178 rfl ?_
      refine zV_aload_n d_Mo_digest_179 rfl ?_
      refine zV_iload_n d_Mo_digest_180 rfl ?_
      refine zS_invv (mt' := m_Mo_countOf) (avs := [(0, w)]) (st := [(2, 80)]) d_Mo_digest_181 l_Mo_338 k_Mo_countOf rfl rfl rfl rfl rfl (s_Mo_countOf (zup m 80 33 h) w (by omega) (h_K (eqv_K i1.1 hK)) (FRS_h i1.2.1)) (fun r9 m5 hq9 => ?_)
      obtain ⟨hZ, rfl⟩ := hq9
      have hD5 : DZ mem m5 := by rcases hZ with ⟨_, e⟩ | ⟨_, e⟩; (rw [e]; exact DZ_h i1); (exact DZ_z (DZ_h i1) e)
      have h33 : m5 80 33 = h := by rcases hZ with ⟨_, e⟩ | ⟨_, e⟩; (rw [e, zup_s]); (rcases e with ⟨_, e⟩ | ⟨_, e⟩; (rw [e, zup_s]); (rw [e.2.1.2 33 (by decide) (by decide) (by decide), zup_s]))
      have cx := hC m5 w hD5 i0.1 (by omega)
      show zS zT m_Mo_digest (0, 0) 184 [some (2, 80), some (0, w), none] [(0, (cnM m5 w)), (2, 80)] m5 _
      refine zV_i2l d_Mo_digest_184 (by rw [cx.1]; exact cx.2) ?_
      refine zS_invvE (mt' := m_Mo_say) (avs := [(1, (cnM m5 w))]) (st := []) d_Mo_digest_185 l_Mo_347 k_Mo_say rfl rfl rfl rfl rfl (s_Mo_say m5 (cnM m5 w)) ?_
      show zS zT m_Mo_digest (0, 0) 188 [some (2, 80), some (0, w), none] [] (zup m5 80 33 (31 * m5 80 33 + cnM m5 w)) _
      refine zV_iinc (L' := [some (2, 80), some (0, (w + 1)), none]) d_Mo_digest_188 (by decide) rfl rfl ?_
      refine zV_goto d_Mo_digest_191 ?_
      rw [h33, cx.1]
      refine ih _ (by omega) (w + 1) m5 _ rfl (by omega) hD5 ?_
      rw [← i2, zfo_s (n := 11) (i := w) (by omega)]
theorem s_Mo_digest_145 (mem : zMem) (hK : moK mem) (h20 : 0 ≤ mem 80 20 ∧ mem 80 20 ≤ 8) (hRg : ∀ i, 0 ≤ i → i < 8 → 0 ≤ mem 92 i ∧ mem 92 i ≤ 1) (hn : 0 ≤ mem 80 1 ∧ mem 80 1 ≤ 24) (hc : ∀ i, 0 ≤ i → i < mem 80 1 → 0 ≤ mem 81 i ∧ mem 81 i ≤ 126) (CX : Int → Int) (hC : ∀ m w, DZ mem m → 0 ≤ w → w ≤ 10 → cnM m w = CX w ∧ I32 (CX w)) (m : zMem) (hD : DZ mem m) (q : Int) : ∀ (i : Int) (h : Int), (0 ≤ i ∧ i ≤ mem 80 1) → (zfo (fun w h => 31 * h + CX w) (11 - 0 : Int).toNat 0 (zfo (fun i h => 31 * h + mem 81 i) (mem 80 1 - i).toNat i h) = q) → zS zT m_Mo_digest (0, 0) 145 [some (2, 80), some (0, i), none] [] (zup m 80 33 h) (zQs (fun r m => r = some (1, q) ∧ DZ mem m)) := by
  intro i h
  obtain ⟨k9, hk9⟩ : ∃ kq : Nat, (mem 80 1 - i).toNat = kq := ⟨_, rfl⟩
  induction k9 using Nat.strongRecOn generalizing i h with
  | _ k9 ih =>
    intro i0 i1
    have e81 : m 81 = mem 81 := hD.1.1 81 (by decide) (by omega) (by decide)
    have e1 : m 80 1 = mem 80 1 := hD.1.2 1 (by decide) (by decide) (by decide) (by decide)
    have hci := hc i i0.1
    have hmi : m 81 i = mem 81 i := by rw [e81]
    refine zV_iload_n d_Mo_digest_145 rfl ?_
    refine zV_aload_n d_Mo_digest_146 rfl ?_
    refine zS_get d_Mo_digest_147 f_Mo_84 rfl rfl ?_
    rw [show (zup m 80 33 h) 80 1 = (m 80 1) from zup_k (by omega)]
    refine zV_icmp_ge d_Mo_digest_150 (by omega) (by omega) (fun c150 => ?_) (fun c150 => ?_)
    · refine zV_iconst d_Mo_digest_170 ?_
      refine zV_istore_n (L' := [some (2, 80), some (0, 0), none]) d_Mo_digest_171 (by decide) rfl ?_
      rw [zfo_e (n := mem 80 1) (by omega)] at i1
      exact s_Mo_digest_172 mem hK h20 hRg hn hc CX hC q 0 m h (by omega) hD i1
    · refine zV_aload_n d_Mo_digest_153 rfl ?_
      refine zV_aload_n d_Mo_digest_154 rfl ?_
      refine zS_getr (r := 81) d_Mo_digest_155 f_Mo_7 rfl rfl rfl ?_
      refine zV_iload_n d_Mo_digest_158 rfl ?_
      refine zS_iald d_Mo_digest_159 rfl rfl ⟨by omega, by omega⟩ ?_
      rw [show (zup m 80 33 h) 81 i = (m 81 i) from zup_c (by omega)]
      refine zV_i2l d_Mo_digest_160 (by omega) ?_
      refine zS_invvE (mt' := m_Mo_say) (avs := [(1, (m 81 i))]) (st := []) d_Mo_digest_161 l_Mo_347 k_Mo_say rfl rfl rfl rfl rfl (e_say m h (m 81 i)) ?_
      show zS zT m_Mo_digest (0, 0) 164 [some (2, 80), some (0, i), none] [] (zup m 80 33 (31 * h + (m 81 i))) _
      refine zV_iinc (L' := [some (2, 80), some (0, (i + 1)), none]) d_Mo_digest_164 (by decide) rfl rfl ?_
      refine zV_goto d_Mo_digest_167 ?_
      refine ih _ (by omega) (i + 1) _ rfl (by omega) ?_
      rw [hmi, ← i1, zfo_s (n := mem 80 1) (i := i) (by omega)]
theorem s_Mo_digest_118 (mem : zMem) (hK : moK mem) (h20 : 0 ≤ mem 80 20 ∧ mem 80 20 ≤ 8) (hRg : ∀ i, 0 ≤ i → i < 8 → 0 ≤ mem 92 i ∧ mem 92 i ≤ 1) (hn : 0 ≤ mem 80 1 ∧ mem 80 1 ≤ 24) (hc : ∀ i, 0 ≤ i → i < mem 80 1 → 0 ≤ mem 81 i ∧ mem 81 i ≤ 126) (CX : Int → Int) (hC : ∀ m w, DZ mem m → 0 ≤ w → w ≤ 10 → cnM m w = CX w ∧ I32 (CX w)) (m : zMem) (hD : DZ mem m) (q : Int) : ∀ (i : Int) (h : Int), (0 ≤ i ∧ i ≤ mem 80 20) → (zfo (fun w h => 31 * h + CX w) (11 - 0 : Int).toNat 0 (zfo (fun i h => 31 * h + mem 81 i) (mem 80 1 - 0).toNat 0 (zfo (fun i h => 31 * h + mem 92 i) (mem 80 20 - i).toNat i h)) = q) → zS zT m_Mo_digest (0, 0) 118 [some (2, 80), some (0, i), none] [] (zup m 80 33 h) (zQs (fun r m => r = some (1, q) ∧ DZ mem m)) := by
  intro i h
  obtain ⟨k9, hk9⟩ : ∃ kq : Nat, (mem 80 20 - i).toNat = kq := ⟨_, rfl⟩
  induction k9 using Nat.strongRecOn generalizing i h with
  | _ k9 ih =>
    intro i0 i1
    have e92 : m 92 = mem 92 := hD.1.1 92 (by decide) (by omega) (by decide)
    have e1 : m 80 20 = mem 80 20 := hD.1.2 20 (by decide) (by decide) (by decide) (by decide)
    have hri := hRg i i0.1
    have hmi : m 92 i = mem 92 i := by rw [e92]
    refine zV_iload_n d_Mo_digest_118 rfl ?_
    refine zV_aload_n d_Mo_digest_119 rfl ?_
    refine zS_get d_Mo_digest_120 f_Mo_260 rfl rfl ?_
    rw [show (zup m 80 33 h) 80 20 = (m 80 20) from zup_k (by omega)]
    refine zV_icmp_ge d_Mo_digest_123 (by omega) (by omega) (fun c123 => ?_) (fun c123 => ?_)
    · refine zV_iconst d_Mo_digest_143 ?_
      refine zV_istore_n (L' := [some (2, 80), some (0, 0), none]) d_Mo_digest_144 (by decide) rfl ?_
      rw [zfo_e (n := mem 80 20) (by omega)] at i1
      exact s_Mo_digest_145 mem hK h20 hRg hn hc CX hC m hD q 0 h (by omega) i1
    · refine zV_aload_n d_Mo_digest_126 rfl ?_
      refine zV_aload_n d_Mo_digest_127 rfl ?_
      refine zS_getr (r := 92) d_Mo_digest_128 f_Mo_44 rfl rfl rfl ?_
      refine zV_iload_n d_Mo_digest_131 rfl ?_
      refine zS_iald d_Mo_digest_132 rfl rfl ⟨by omega, by omega⟩ ?_
      rw [show (zup m 80 33 h) 92 i = (m 92 i) from zup_c (by omega)]
      refine zV_i2l d_Mo_digest_133 (by omega) ?_
      refine zS_invvE (mt' := m_Mo_say) (avs := [(1, (m 92 i))]) (st := []) d_Mo_digest_134 l_Mo_347 k_Mo_say rfl rfl rfl rfl rfl (e_say m h (m 92 i)) ?_
      show zS zT m_Mo_digest (0, 0) 137 [some (2, 80), some (0, i), none] [] (zup m 80 33 (31 * h + (m 92 i))) _
      refine zV_iinc (L' := [some (2, 80), some (0, (i + 1)), none]) d_Mo_digest_137 (by decide) rfl rfl ?_
      refine zV_goto d_Mo_digest_140 ?_
      refine ih _ (by omega) (i + 1) _ rfl (by omega) ?_
      rw [hmi, ← i1, zfo_s (n := mem 80 20) (i := i) (by omega)]
noncomputable def dxE (mem : zMem) (CX : Int → Int) (h : Int) : Int := zfo (fun w h => 31 * h + CX w) (11 - 0 : Int).toNat 0 (zfo (fun i h => 31 * h + mem 81 i) (mem 80 1 - 0).toNat 0 (zfo (fun i h => 31 * h + mem 92 i) (mem 80 20 - 0).toNat 0 h))
noncomputable def dxP (mem : zMem) (TX : Int → Int → Int) (h : Int) : Int := zfo (fun p h => zfo (fun w h => 31 * h + TX p w) (4 - 0 : Int).toNat 0 h) ((lpA mem (-1)).1 - 0).toNat 0 h
theorem s_Mo_digest_48 (mem : zMem) (hK : moK mem) (hO : FRS mem) (h : Int) (Q9 : zQ2) (k61 : mem 80 2 ≠ 0 → ∀ m1, FRm (zup mem 80 33 h) m1 → zS zT m_Mo_digest (0, 0) 61 [some (2, 80), some (0, 0), none] [] m1 (zQs Q9)) (k118 : mem 80 2 = 0 → zS zT m_Mo_digest (0, 0) 118 [some (2, 80), some (0, 0), none] [] (zup mem 80 33 h) (zQs Q9)) : zS zT m_Mo_digest (0, 0) 48 [some (2, 80), none, none] [] (zup mem 80 33 h) (zQs Q9) := by
  have k1 := hK.1
  refine zV_aload_n d_Mo_digest_48 rfl ?_
  refine zS_invvE (mt' := m_Mo_lacks) (avs := []) (st := []) d_Mo_digest_49 l_Mo_213 k_Mo_lacks rfl rfl rfl rfl rfl (by have z := s_Mo_lacks (zup mem 80 33 h) (by rw [h_k (by decide)]; omega); rw [h_k (by decide)] at z; exact z) ?_
  show zS zT m_Mo_digest (0, 0) 52 [some (2, 80), none, none] [(0, (zb (mem 80 2 = 0)))] (zup mem 80 33 h) _
  refine zV_ifb_ne d_Mo_digest_52 (fun c52 => ?_) (fun c52 => ?_)
  · refine zV_iconst d_Mo_digest_116 ?_
    refine zV_istore_n (L' := [some (2, 80), some (0, 0), none]) d_Mo_digest_117 (by decide) rfl ?_
    refine zV_forget (L' := [some (2, 80), some (0, 0), none]) (by simp [zle]) ?_
    exact k118 (by assumption)
  · refine zV_aload_n d_Mo_digest_55 rfl ?_
    refine zS_invv (mt' := m_Mo_freshen) (avs := []) (st := []) d_Mo_digest_56 l_Mo_217 k_Mo_freshen rfl rfl rfl rfl rfl (s_Mo_freshen (zup mem 80 33 h) (h_K hK) (FRS_T (FRS_h hO) (by rw [zup_k (by decide)]; assumption))) (fun r9 m1 hq9 => ?_)
    obtain ⟨rfl, hR⟩ := hq9
    show zS zT m_Mo_digest (0, 0) 59 [some (2, 80), none, none] [] m1 _
    refine zV_iconst d_Mo_digest_59 ?_
    refine zV_istore_n (L' := [some (2, 80), some (0, 0), none]) d_Mo_digest_60 (by decide) rfl ?_
    refine zV_forget (L' := [some (2, 80), some (0, 0), none]) (by simp [zle]) ?_
    exact k61 (by assumption) m1 hR
theorem s_Mo_digest_99 (m : zMem) (hL : okL m) (hO : FRS m) (hne : m 80 2 ≠ 0) (h : Int) (Q9 : zQ2) (kk : ∀ m4 m5 n, FRm (zup m 80 33 (syS m h)) m4 → NMm m4 (HM m4 0 1000) m5 n → zS zT m_Mo_digest (0, 0) 118 [some (2, 80), some (0, 0), none] [] (zup m5 80 33 (31 * syS m h + n)) (zQs Q9)) : zS zT m_Mo_digest (0, 0) 99 [some (2, 80), none, none] [] (zup m 80 33 h) (zQs Q9) := by
  have hK := hL.1
  refine zV_aload_n d_Mo_digest_99 rfl ?_
  refine zS_invvE (mt' := m_Mo_sayStacks) (avs := []) (st := []) d_Mo_digest_100 l_Mo_353 k_Mo_sayStacks rfl rfl rfl rfl rfl (e_sayS (m := m) (h := h) hL) ?_
  show zS zT m_Mo_digest (0, 0) 103 [some (2, 80), none, none] [] (zup m 80 33 (syS m h)) _
  refine zV_aload_n d_Mo_digest_103 rfl ?_
  refine zV_aload_n d_Mo_digest_104 rfl ?_
  refine zV_iconst d_Mo_digest_105 ?_
  refine zV_sipush d_Mo_digest_106 ?_
  refine zS_invv (mt' := m_Mo_piecesOf) (avs := [(0, 0), (0, 1000)]) (st := [(2, 80)]) d_Mo_digest_109 l_Mo_269 k_Mo_piecesOf rfl rfl rfl rfl rfl (s_Mo_piecesOf (zup m 80 33 (syS m h)) 0 1000 (by decide) (by decide) (h_K hK) (FRS_h hO) (by rw [zup_k (by decide)]; exact hne)) (fun r9 m5 hq9 => ?_)
  obtain ⟨m4, n9, hR9, rfl, hN9⟩ := hq9
  have hn9 : 0 ≤ n9 ∧ n9 ≤ 225 := by rw [hN9.2.2]; exact cntR_r _ _
  have h33 : m5 80 33 = syS m h := by rw [hN9.1.1 80 (by decide), hR9.2.1.2 33 (by decide) (by decide) (by decide), zup_s]
  show zS zT m_Mo_digest (0, 0) 112 [some (2, 80), none, none] [(0, n9), (2, 80)] m5 _
  refine zV_i2l d_Mo_digest_112 (by omega) ?_
  refine zS_invvE (mt' := m_Mo_say) (avs := [(1, n9)]) (st := []) d_Mo_digest_113 l_Mo_347 k_Mo_say rfl rfl rfl rfl rfl (s_Mo_say m5 n9) ?_
  show zS zT m_Mo_digest (0, 0) 116 [some (2, 80), none, none] [] (zup m5 80 33 (31 * m5 80 33 + n9)) _
  refine zV_iconst d_Mo_digest_116 ?_
  refine zV_istore_n (L' := [some (2, 80), some (0, 0), none]) d_Mo_digest_117 (by decide) rfl ?_
  refine zV_forget (L' := [some (2, 80), some (0, 0), none]) (by simp [zle]) ?_
  rw [h33]
  exact kk m4 m5 n9 hR9 hN9
theorem s_Mo_digest (mem : zMem) (hK : moK mem) (h20 : 0 ≤ mem 80 20 ∧ mem 80 20 ≤ 8) (hRg : ∀ i, 0 ≤ i → i < 8 → 0 ≤ mem 92 i ∧ mem 92 i ≤ 1) (hn : 0 ≤ mem 80 1 ∧ mem 80 1 ≤ 24) (hc : ∀ i, 0 ≤ i → i < mem 80 1 → 0 ≤ mem 81 i ∧ mem 81 i ≤ 126) (CX : Int → Int) (hC : ∀ m w, DZ mem m → 0 ≤ w → w ≤ 10 → cnM m w = CX w ∧ I32 (CX w)) (hO : FRS mem) (hS : okSM mem) (hN : ∀ k, 0 ≤ k → k < 4 → I32 (mem 85 k)) (TX : Int → Int → Int) (hT : mem 80 2 ≠ 0 → ∀ m p w, DZ mem m → 0 ≤ p → p < (lpA mem (-1)).1 → 0 ≤ w → w ≤ 3 → tpM m p w = TX p w ∧ I32 (TX p w)) (SX : Int → Int) (hSx : mem 80 2 ≠ 0 → ∀ m h, DZ mem m → syS m h = SX h) (PX : Int) (hPx : mem 80 2 ≠ 0 → ∀ m1 m n, DZ mem m1 → NMm m1 (HM m1 0 1000) m n → n = PX) : zF m_Mo_digest [(2, 80)] mem (fun r m => r = some (1, dxE mem CX (if mem 80 2 = 0 then dxC mem else 31 * SX (dxP mem TX (dxC mem)) + PX)) ∧ DZ mem m) := by
  have k1 := hK.1
  refine zF_of (by decide) (Nat.le_of_ble_eq_true rfl) ?_
  show zS zT m_Mo_digest (0, 0) 0 [some (2, 80), none, none] [] mem _
  refine zV_aload_n d_Mo_digest_0 rfl ?_
  refine zV_ldc2 (a := 1433) d_Mo_digest_1 n_Mo_351 rfl ?_
  refine zS_putl d_Mo_digest_4 f_Mo_343 rfl ⟨rfl, rfl⟩ rfl ?_
  refine zV_iconst d_Mo_digest_7 ?_
  refine zV_istore_n (L' := [some (2, 80), some (0, 0), none]) d_Mo_digest_8 (by decide) rfl ?_
  refine s_Mo_digest_9 mem hK hS hN (dxC mem) _ ?_ 0 1433 (by omega) rfl
  refine s_Mo_digest_48 mem hK hO _ _ (fun hne m1 hR => ?_) (fun h0 => ?_)
  · have hD0 : DZ mem (zup mem 80 33 (dxC mem)) → DZ mem m1 := fun z => DZ_f z hR
    have hD1 : DZ mem m1 := ⟨eqv_t (eqv_h mem _) (eqv_f hR.2.1), FRm_S hR, fun _ => by rw [← eqv_A (eqv_h mem (dxC mem))]; exact hR.1⟩
    have e33 : m1 80 33 = dxC mem := by rw [hR.2.1.2 33 (by decide) (by decide) (by decide), zup_s]
    have hL1 := ML_ok (eqv_K hD1.1 hK) (hD1.2.2 hne)
    have hpt := ML_pt (hD1.2.2 hne)
    rw [zup_self e33]
    refine s_Mo_digest_61 mem m1 hK hD1 hne TX (hT hne) (dxP mem TX (dxC mem)) _ ?_ 0 _ (by omega) rfl
    refine s_Mo_digest_99 m1 hL1 hD1.2.1 (by rw [hD1.1.2 2 (by decide) (by decide) (by decide) (by decide)]; exact hne) _ _ (fun m4 m5 n hR9 hN9 => ?_)
    have hD4 : DZ mem m4 := DZ_f (DZ_h hD1) hR9
    have hD5 : DZ mem m5 := DZ_p hD4 hN9.1.1
    rw [hSx hne m1 _ hD1, hPx hne m4 m5 n hD4 hN9]
    refine zS_mono ?_ (s_Mo_digest_118 mem hK h20 hRg hn hc CX hC m5 hD5 _ 0 _ (by omega) rfl)
    rintro r m ⟨rfl, h9⟩
    exact ⟨by rw [if_neg hne]; rfl, h9⟩
  · have hD : DZ mem (zup mem 80 33 (dxC mem)) := ⟨eqv_h _ _, FRS_h hO, fun z => absurd h0 z⟩
    have hD' : DZ mem mem := ⟨eqv_r _, hO, fun z => absurd h0 z⟩
    refine zS_mono ?_ (s_Mo_digest_118 mem hK h20 hRg hn hc CX hC mem hD' _ 0 _ (by omega) rfl)
    rintro r m ⟨rfl, h9⟩
    exact ⟨by rw [if_pos h0]; rfl, h9⟩
