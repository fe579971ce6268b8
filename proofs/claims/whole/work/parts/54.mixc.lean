/-! digest: curves -/
theorem asX_r (a b c : Int) : 0 ≤ asX a b c ∧ asX a b c ≤ 18 := by
  have h := zfo_inv (f := asF a b c) (fun i s => -9 ≤ s.1 ∧ s.1 ≤ 9) (10 - (-9) : Int).toNat (-9) (-9, 6) ⟨by decide, by decide⟩ (fun j s q1 q2 h => by
    have q3 : j ≤ 9 := by omega
    unfold asF
    (repeat' split) <;> first | exact h | exact ⟨q1, q3⟩)
  unfold asX
  omega
def nmR (mem : zMem) : Prop := ∀ k, 0 ≤ k → k < mem 3 1 → I32 (mem (3 + 2 + k) 3)
theorem cuX_i {mem : zMem} {i w : Int} (hK : rwK mem 3) (hN : nmR mem) (hi : 0 ≤ i ∧ i < mem 3 1) : I32 (cuX mem i w) := by
  have h1 := hK.2 i hi.1 hi.2
  have h2 := hN i hi.1 hi.2
  have h3 := srt_r (fun k => cbX mem 21 i k (mem (3 + 2 + i) 1) (mem (3 + 2 + i) 2))
  have h4 := asX_r (srt (fun k => cbX mem 21 i k (mem (3 + 2 + i) 1) (mem (3 + 2 + i) 2))) (mem (3 + 2 + i) 1) (mem (3 + 2 + i) 2)
  unfold cuX
  (repeat' split) <;> omega
noncomputable def mxC (mem : zMem) (h : Int) : Int := zfo (fun p h => zfo (fun w h => 31 * h + cuX mem p w) (6 - 0 : Int).toNat 0 h) (mem 3 1 - 0).toNat 0 h
theorem s_Cp_mixCurves_20 (mem : zMem) (h0 : Int) (hK : rwK mem 3) (hS : okS mem 21) (hN : nmR mem) (p : Int) (hp : 0 ≤ p ∧ p < mem 3 1) (q : Int) (Q9 : zQ2) (kk : zS zT m_Cp_mixCurves (0, 0) 45 [some (2, 0), some (1, h0), none, some (1, q), none, some (0, p), none] [] mem (zQs Q9)) : ∀ (w : Int) (hh : Int), (0 ≤ w ∧ w ≤ 6) → (zfo (fun w h => 31 * h + cuX mem p w) (6 - w).toNat w hh = q) → zS zT m_Cp_mixCurves (0, 0) 20 [some (2, 0), some (1, h0), none, some (1, hh), none, some (0, p), some (0, w)] [] mem (zQs (Q9)) := by
  intro w hh
  obtain ⟨k9, hk9⟩ : ∃ kq : Nat, (6 - w).toNat = kq := ⟨_, rfl⟩
  induction k9 using Nat.strongRecOn generalizing w hh with
  | _ k9 ih =>
    intro i0 i1
    have t1 := hK.1
    refine zV_iload d_Cp_mixCurves_20 rfl ?_
    refine zV_iconst d_Cp_mixCurves_22 ?_
    refine zV_icmp_gt d_Cp_mixCurves_23 (by omega) (by omega) (fun c23 => ?_) (fun c23 => ?_)
    · refine zV_forget (L' := [some (2, 0), some (1, h0), none, some (1, hh), none, some (0, p), none]) (by simp [zle]) ?_
      rw [zfo_e (n := 6) (by omega)] at i1
      rw [i1]
      exact kk
    · refine zV_lload_n d_Cp_mixCurves_26 rfl ?_
      refine zV_aload_n d_Cp_mixCurves_27 rfl ?_
      refine zV_iload d_Cp_mixCurves_28 rfl ?_
      refine zV_iload d_Cp_mixCurves_30 rfl ?_
      refine zS_invvE (mt' := m_Cp_curve) (avs := [(0, p), (0, w)]) (st := [(1, hh)]) d_Cp_mixCurves_32 l_Cp_275 k_Cp_curve rfl rfl rfl rfl rfl (s_Cp_curve mem p w (by omega) (by omega) hK hS) ?_
      show zS zT m_Cp_mixCurves (0, 0) 35 [some (2, 0), some (1, h0), none, some (1, hh), none, some (0, p), some (0, w)] [(0, (if 0 ≤ p ∧ p < mem 3 1 then cuX mem p w else -101)), (1, hh)] mem _
      refine zS_invsE (mt' := m_Cp_mix) (avs := [(1, hh), (0, (if 0 ≤ p ∧ p < mem 3 1 then cuX mem p w else -101))]) (st := []) d_Cp_mixCurves_35 l_Cp_263 k_Cp_mix rfl rfl rfl rfl (s_Cp_mix mem hh (if 0 ≤ p ∧ p < mem 3 1 then cuX mem p w else -101) (by rw [if_pos (show 0 ≤ p ∧ p < mem 3 1 by omega)]; exact cuX_i hK hN hp)) ?_
      show zS zT m_Cp_mixCurves (0, 0) 38 [some (2, 0), some (1, h0), none, some (1, hh), none, some (0, p), some (0, w)] [(1, (31 * hh + (if 0 ≤ p ∧ p < mem 3 1 then cuX mem p w else -101)))] mem _
      refine zV_lstore_n (L' := [some (2, 0), some (1, h0), none, some (1, (31 * hh + (if 0 ≤ p ∧ p < mem 3 1 then cuX mem p w else -101))), none, some (0, p), some (0, w)]) d_Cp_mixCurves_38 (by decide) rfl ?_
      refine zV_iinc (L' := [some (2, 0), some (1, h0), none, some (1, (31 * hh + (if 0 ≤ p ∧ p < mem 3 1 then cuX mem p w else -101))), none, some (0, p), some (0, (w + 1))]) d_Cp_mixCurves_39 (by decide) rfl rfl ?_
      refine zV_goto d_Cp_mixCurves_42 ?_
      refine ih _ (by omega) (w + 1) _ rfl (by omega) ?_
      rw [if_pos (show 0 ≤ p ∧ p < mem 3 1 from hp), ← i1, zfo_s (n := 6) (i := w) (by omega)]
theorem s_Cp_mixCurves_45 (mem : zMem) (h0 hh p : Int) (hp : 0 ≤ p ∧ p < 12) (Q9 : zQ2) (kk : zS zT m_Cp_mixCurves (0, 0) 5 [some (2, 0), some (1, h0), none, some (1, hh), none, some (0, (p + 1)), none] [] mem (zQs Q9)) : zS zT m_Cp_mixCurves (0, 0) 45 [some (2, 0), some (1, h0), none, some (1, hh), none, some (0, p), none] [] mem (zQs Q9) := by
  refine zV_iinc (L' := [some (2, 0), some (1, h0), none, some (1, hh), none, some (0, (p + 1)), none]) d_Cp_mixCurves_45 (by decide) rfl rfl ?_
  refine zV_goto d_Cp_mixCurves_48 ?_
  exact kk
theorem s_Cp_mixCurves_5 (mem : zMem) (h0 : Int) (hK : rwK mem 3) (hS : okS mem 21) (hN : nmR mem) (q : Int) : ∀ (p : Int) (hh : Int), (0 ≤ p ∧ p ≤ mem 3 1) → (zfo (fun p h => zfo (fun w h => 31 * h + cuX mem p w) (6 - 0 : Int).toNat 0 h) (mem 3 1 - p).toNat p hh = q) → zS zT m_Cp_mixCurves (0, 0) 5 [some (2, 0), some (1, h0), none, some (1, hh), none, some (0, p), none] [] mem (zQs (fun r m => r = some (1, q) ∧ m = mem)) := by
  intro p hh
  obtain ⟨k9, hk9⟩ : ∃ kq : Nat, (mem 3 1 - p).toNat = kq := ⟨_, rfl⟩
  induction k9 using Nat.strongRecOn generalizing p hh with
  | _ k9 ih =>
    intro i0 i1
    have t1 := hK.1
    refine zV_iload d_Cp_mixCurves_5 rfl ?_
    refine zV_aload_n d_Cp_mixCurves_7 rfl ?_
    refine zS_getr (r := 3) d_Cp_mixCurves_8 f_Cp_19 rfl rfl rfl ?_
    refine zS_get d_Cp_mixCurves_11 f_Cp_106 rfl rfl ?_
    refine zV_icmp_ge d_Cp_mixCurves_14 (by omega) (by omega) (fun c14 => ?_) (fun c14 => ?_)
    · refine zV_lload_n d_Cp_mixCurves_51 rfl ?_
      exact zS_lret d_Cp_mixCurves_52 rfl ⟨Nat.zero_le _, Nat.zero_le _⟩ ⟨by rw [← i1, zfo_e (n := mem 3 1) (by omega)], rfl⟩
    · refine zV_iconst d_Cp_mixCurves_17 ?_
      refine zV_istore (L' := [some (2, 0), some (1, h0), none, some (1, hh), none, some (0, p), some (0, 0)]) d_Cp_mixCurves_18 (by decide) rfl ?_
      refine s_Cp_mixCurves_20 mem h0 hK hS hN p ⟨i0.1, by omega⟩ _ _ ?_ 0 hh (by omega) rfl
      refine s_Cp_mixCurves_45 mem h0 _ p (by omega) _ (ih _ (by omega) (p + 1) _ rfl (by omega) ?_)
      rw [← i1, zfo_s (n := mem 3 1) (i := p) (by omega)]
theorem s_Cp_mixCurves (mem : zMem) (h0 : Int) (hK : rwK mem 3) (hS : okS mem 21) (hN : nmR mem) : zF m_Cp_mixCurves [(2, 0), (1, h0)] mem (fun r m => r = some (1, mxC mem h0) ∧ m = mem) := by
  have t1 := hK.1
  refine zF_of (by decide) (Nat.le_of_ble_eq_true rfl) ?_
  show zS zT m_Cp_mixCurves (0, 0) 0 [some (2, 0), some (1, h0), none, none, none, none, none] [] mem _
  refine zV_lload_n d_Cp_mixCurves_0 rfl ?_
  refine zV_lstore_n (L' := [some (2, 0), some (1, h0), none, some (1, h0), none, none, none]) d_Cp_mixCurves_1 (by decide) rfl ?_
  refine zV_iconst d_Cp_mixCurves_2 ?_
  refine zV_istore (L' := [some (2, 0), some (1, h0), none, some (1, h0), none, some (0, 0), none]) d_Cp_mixCurves_3 (by decide) rfl ?_
  exact s_Cp_mixCurves_5 mem h0 hK hS hN _ 0 h0 (by omega) rfl
