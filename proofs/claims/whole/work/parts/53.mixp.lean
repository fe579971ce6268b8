/-! digest: points -/
noncomputable def pnX (mem : zMem) (pt : Int → Pt) (p w : Int) : Int := if w = 0 then 100000 + thP (pt p) else if w = 1 then zb ((pt p).2.1 = 0) else if w = 2 then pmA mem 31 p else if w = 3 then upA mem 31 p else -102
theorem thP_r {p : Pt} (h : okP p) : -200000 ≤ thP p ∧ thP p ≤ 200000 := by
  obtain ⟨a, b, c, d⟩ := h
  have hr := rtD_r (1000000 * p.2.2.1)
  unfold thP
  have key : ∀ x : Int, -150000 ≤ x → x ≤ 150000 → -200000 ≤ x / p.2.2.2 ∧ x / p.2.2.2 ≤ 200000 := fun x h1 h2 => by
    constructor
    · refine Int.le_ediv_of_mul_le (by omega) ?_
      omega
    · have h3 : x / p.2.2.2 ≤ 150000 / p.2.2.2 := Int.ediv_le_ediv (by omega) h2
      have h4 : 150000 / p.2.2.2 ≤ 150000 := Int.ediv_le_self _ (by decide)
      omega
  split
  · exact key _ (by omega) (by omega)
  · split
    · exact key _ (by omega) (by omega)
    · exact key _ (by omega) (by omega)
theorem zsm_b {f : Int → Int} {B : Int} : ∀ (k : Nat) (i : Int), (∀ j, i ≤ j → j < i + k → 0 ≤ f j ∧ f j ≤ B) → 0 ≤ zsm f k i ∧ zsm f k i ≤ k * B
  | 0, _, _ => by unfold zsm; simp
  | k + 1, i, h => by
    have h1 := h i (by omega) (by omega)
    have h2 := zsm_b k (i + 1) (fun j q1 q2 => h j (by omega) (by omega))
    unfold zsm
    have e : ((k + 1 : Nat) : Int) * B = k * B + B := by rw [Int.natCast_succ, Int.add_mul, Int.one_mul]
    omega
theorem upA_r {mem : zMem} {t p : Int} (h : okT mem t) : 0 ≤ upA mem t p ∧ upA mem t p ≤ 4 := by
  have h3 := h.2.2.1
  have := zsm_r (f := fun c => zb (mem (t + 4) c ≠ 0 ∧ mem (t + 3) c = 2 * p + 1)) (fun j => by have := zb_01 (mem (t + 4) j ≠ 0 ∧ mem (t + 3) j = 2 * p + 1); omega) (mem t 3 - 0).toNat 0
  unfold upA
  omega
theorem pmA_r {mem : zMem} {t p : Int} (h : okT mem t) : 0 ≤ pmA mem t p ∧ pmA mem t p ≤ 16 := by
  have h3 := h.2.2.1
  have := zsm_b (f := pmR mem t p) (B := 4) (mem t 3 - 0).toNat 0 (fun j q1 q2 => by
    have := zsm_r (f := fun i => zb (pmQ mem t p j i)) (fun i => by have := zb_01 (pmQ mem t p j i); omega) (j - 0).toNat 0
    unfold pmR
    omega)
  unfold pmA
  omega
theorem pnX_i {mem : zMem} {pt : Int → Pt} {p w : Int} (hT : okT mem 31) (hp : okP (pt p)) : I32 (pnX mem pt p w) := by
  have h1 := thP_r hp
  have h2 := zb_01 ((pt p).2.1 = 0)
  have h3 := pmA_r (p := p) hT
  have h4 := upA_r (p := p) hT
  unfold pnX
  (repeat' split) <;> omega
noncomputable def mxP (mem : zMem) (pt : Int → Pt) (h : Int) : Int := zfo (fun p h => zfo (fun w h => 31 * h + pnX mem pt p w) (4 - 0 : Int).toNat 0 h) (mem 31 1 - 0).toNat 0 h
theorem s_Cp_mixPoints_20 (mem : zMem) (h0 : Int) (hT : okT mem 31) (hR : RT mem 31) (pt : Int → Pt) (hP : PTS mem 31 pt) (p : Int) (hp : 0 ≤ p ∧ p < mem 31 1) (q : Int) (Q9 : zQ2) (kk : zS zT m_Cp_mixPoints (0, 0) 45 [some (2, 0), some (1, h0), none, some (1, q), none, some (0, p), none] [] mem (zQs Q9)) : ∀ (w : Int) (hh : Int), (0 ≤ w ∧ w ≤ 4) → (zfo (fun w h => 31 * h + pnX mem pt p w) (4 - w).toNat w hh = q) → zS zT m_Cp_mixPoints (0, 0) 20 [some (2, 0), some (1, h0), none, some (1, hh), none, some (0, p), some (0, w)] [] mem (zQs (Q9)) := by
  intro w hh
  obtain ⟨k9, hk9⟩ : ∃ kq : Nat, (4 - w).toNat = kq := ⟨_, rfl⟩
  induction k9 using Nat.strongRecOn generalizing w hh with
  | _ k9 ih =>
    intro i0 i1
    have t1 := hT.1
    refine zV_iload d_Cp_mixPoints_20 rfl ?_
    refine zV_iconst d_Cp_mixPoints_22 ?_
    refine zV_icmp_gt d_Cp_mixPoints_23 (by omega) (by omega) (fun c23 => ?_) (fun c23 => ?_)
    · refine zV_forget (L' := [some (2, 0), some (1, h0), none, some (1, hh), none, some (0, p), none]) (by simp [zle]) ?_
      rw [zfo_e (n := 4) (by omega)] at i1
      rw [i1]
      exact kk
    · refine zV_lload_n d_Cp_mixPoints_26 rfl ?_
      refine zV_aload_n d_Cp_mixPoints_27 rfl ?_
      refine zV_iload d_Cp_mixPoints_28 rfl ?_
      refine zV_iload d_Cp_mixPoints_30 rfl ?_
      refine zS_invvE (mt' := m_Cp_point) (avs := [(0, p), (0, w)]) (st := [(1, hh)]) d_Cp_mixPoints_32 l_Cp_278 k_Cp_point rfl rfl rfl rfl rfl (s_Cp_point mem p w (by omega) (by omega) hT hR pt hP) ?_
      show zS zT m_Cp_mixPoints (0, 0) 35 [some (2, 0), some (1, h0), none, some (1, hh), none, some (0, p), some (0, w)] [(0, (if 0 ≤ p ∧ p < mem 31 1 then (if w = 0 then 100000 + thP (pt p) else if w = 1 then zb ((pt p).2.1 = 0) else if w = 2 then pmA mem 31 p else if w = 3 then upA mem 31 p else -102) else -101)), (1, hh)] mem _
      refine zS_invsE (mt' := m_Cp_mix) (avs := [(1, hh), (0, (if 0 ≤ p ∧ p < mem 31 1 then (if w = 0 then 100000 + thP (pt p) else if w = 1 then zb ((pt p).2.1 = 0) else if w = 2 then pmA mem 31 p else if w = 3 then upA mem 31 p else -102) else -101))]) (st := []) d_Cp_mixPoints_35 l_Cp_263 k_Cp_mix rfl rfl rfl rfl (s_Cp_mix mem hh (if 0 ≤ p ∧ p < mem 31 1 then (if w = 0 then 100000 + thP (pt p) else if w = 1 then zb ((pt p).2.1 = 0) else if w = 2 then pmA mem 31 p else if w = 3 then upA mem 31 p else -102) else -101) (by rw [if_pos (show 0 ≤ p ∧ p < mem 31 1 by omega)]; exact pnX_i hT (hP p (by omega) (by omega)).1)) ?_
      show zS zT m_Cp_mixPoints (0, 0) 38 [some (2, 0), some (1, h0), none, some (1, hh), none, some (0, p), some (0, w)] [(1, (31 * hh + (if 0 ≤ p ∧ p < mem 31 1 then (if w = 0 then 100000 + thP (pt p) else if w = 1 then zb ((pt p).2.1 = 0) else if w = 2 then pmA mem 31 p else if w = 3 then upA mem 31 p else -102) else -101)))] mem _
      refine zV_lstore_n (L' := [some (2, 0), some (1, h0), none, some (1, (31 * hh + (if 0 ≤ p ∧ p < mem 31 1 then (if w = 0 then 100000 + thP (pt p) else if w = 1 then zb ((pt p).2.1 = 0) else if w = 2 then pmA mem 31 p else if w = 3 then upA mem 31 p else -102) else -101))), none, some (0, p), some (0, w)]) d_Cp_mixPoints_38 (by decide) rfl ?_
      refine zV_iinc (L' := [some (2, 0), some (1, h0), none, some (1, (31 * hh + (if 0 ≤ p ∧ p < mem 31 1 then (if w = 0 then 100000 + thP (pt p) else if w = 1 then zb ((pt p).2.1 = 0) else if w = 2 then pmA mem 31 p else if w = 3 then upA mem 31 p else -102) else -101))), none, some (0, p), some (0, (w + 1))]) d_Cp_mixPoints_39 (by decide) rfl rfl ?_
      refine zV_goto d_Cp_mixPoints_42 ?_
      refine ih _ (by omega) (w + 1) _ rfl (by omega) ?_
      rw [if_pos (show 0 ≤ p ∧ p < mem 31 1 from hp), ← i1, zfo_s (n := 4) (i := w) (by omega)]
      rfl
theorem s_Cp_mixPoints_45 (mem : zMem) (h0 hh p : Int) (hp : 0 ≤ p ∧ p < 12) (Q9 : zQ2) (kk : zS zT m_Cp_mixPoints (0, 0) 5 [some (2, 0), some (1, h0), none, some (1, hh), none, some (0, (p + 1)), none] [] mem (zQs Q9)) : zS zT m_Cp_mixPoints (0, 0) 45 [some (2, 0), some (1, h0), none, some (1, hh), none, some (0, p), none] [] mem (zQs Q9) := by
  refine zV_iinc (L' := [some (2, 0), some (1, h0), none, some (1, hh), none, some (0, (p + 1)), none]) d_Cp_mixPoints_45 (by decide) rfl rfl ?_
  refine zV_goto d_Cp_mixPoints_48 ?_
  exact kk
theorem s_Cp_mixPoints_5 (mem : zMem) (h0 : Int) (hT : okT mem 31) (hR : RT mem 31) (pt : Int → Pt) (hP : PTS mem 31 pt) (q : Int) : ∀ (p : Int) (hh : Int), (0 ≤ p ∧ p ≤ mem 31 1) → (zfo (fun p h => zfo (fun w h => 31 * h + pnX mem pt p w) (4 - 0 : Int).toNat 0 h) (mem 31 1 - p).toNat p hh = q) → zS zT m_Cp_mixPoints (0, 0) 5 [some (2, 0), some (1, h0), none, some (1, hh), none, some (0, p), none] [] mem (zQs (fun r m => r = some (1, q) ∧ m = mem)) := by
  intro p hh
  obtain ⟨k9, hk9⟩ : ∃ kq : Nat, (mem 31 1 - p).toNat = kq := ⟨_, rfl⟩
  induction k9 using Nat.strongRecOn generalizing p hh with
  | _ k9 ih =>
    intro i0 i1
    have t1 := hT.1
    refine zV_iload d_Cp_mixPoints_5 rfl ?_
    refine zV_aload_n d_Cp_mixPoints_7 rfl ?_
    refine zS_getr (r := 31) d_Cp_mixPoints_8 f_Cp_42 rfl rfl rfl ?_
    refine zS_get d_Cp_mixPoints_11 f_Cp_157 rfl rfl ?_
    refine zV_icmp_ge d_Cp_mixPoints_14 (by omega) (by omega) (fun c14 => ?_) (fun c14 => ?_)
    · refine zV_lload_n d_Cp_mixPoints_51 rfl ?_
      exact zS_lret d_Cp_mixPoints_52 rfl ⟨Nat.zero_le _, Nat.zero_le _⟩ ⟨by rw [← i1, zfo_e (n := mem 31 1) (by omega)], rfl⟩
    · refine zV_iconst d_Cp_mixPoints_17 ?_
      refine zV_istore (L' := [some (2, 0), some (1, h0), none, some (1, hh), none, some (0, p), some (0, 0)]) d_Cp_mixPoints_18 (by decide) rfl ?_
      refine s_Cp_mixPoints_20 mem h0 hT hR pt hP p ⟨i0.1, by omega⟩ _ _ ?_ 0 hh (by omega) rfl
      refine s_Cp_mixPoints_45 mem h0 _ p (by omega) _ (ih _ (by omega) (p + 1) _ rfl (by omega) ?_)
      rw [← i1, zfo_s (n := mem 31 1) (i := p) (by omega)]
theorem s_Cp_mixPoints (mem : zMem) (h0 : Int) (hT : okT mem 31) (hR : RT mem 31) (pt : Int → Pt) (hP : PTS mem 31 pt) : zF m_Cp_mixPoints [(2, 0), (1, h0)] mem (fun r m => r = some (1, mxP mem pt h0) ∧ m = mem) := by
  have t1 := hT.1
  refine zF_of (by decide) (Nat.le_of_ble_eq_true rfl) ?_
  show zS zT m_Cp_mixPoints (0, 0) 0 [some (2, 0), some (1, h0), none, none, none, none, none] [] mem _
  refine zV_lload_n d_Cp_mixPoints_0 rfl ?_
  refine zV_lstore_n (L' := [some (2, 0), some (1, h0), none, some (1, h0), none, none, none]) d_Cp_mixPoints_1 (by decide) rfl ?_
  refine zV_iconst d_Cp_mixPoints_2 ?_
  refine zV_istore (L' := [some (2, 0), some (1, h0), none, some (1, h0), none, some (0, 0), none]) d_Cp_mixPoints_3 (by decide) rfl ?_
  exact s_Cp_mixPoints_5 mem h0 hT hR pt hP _ 0 h0 (by omega) rfl
