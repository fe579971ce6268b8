/-! loose curves linked -/
def kO (x : Int) : Int → Int := fun l => if l < x then l else l + 1
theorem lo_LK {mem m : zMem} {k : Int} (hK : moK mem) (hc : curE mem 3 mem) (hk : 0 ≤ k ∧ k < mem 80 2) (hf : frL mem m) (hM : ML m k (lpA mem k)) : LK (roV mem k) 0 m k (kO k) ∧ KP (roV mem k) 0 m k (kO k) := by
  have e1 := roV_1 mem k
  have n1 := hc.1
  have e2 : m 80 2 = mem 80 2 := hf.2 2 (by decide) (by decide)
  have hq : ∀ l, 0 ≤ l → l < roV mem k 0 1 → rq (roV mem k) 0 l mem (kO k l) := fun l q1 q2 => by
    unfold rq kO
    rw [roV_l q1, roV_l q1, roV_l q1]
    by_cases e : l < k
    · rw [if_pos e, if_pos e, if_pos e, if_pos e]
      exact hc.2 l q1 (by omega)
    · rw [if_neg e, if_neg e, if_neg e, if_neg e]
      exact hc.2 (l + 1) (by omega) (by omega)
  have hp : lpA mem k = ptR (roV mem k) 0 := lp_out ⟨hk, by omega, fun l q1 q2 => hq l q1 q2⟩
  refine ⟨⟨frL_K hf hK, by rw [← hp]; exact hM, by rw [frL_A hf]; exact hp, fun l q1 q2 => ⟨?_, ?_, ?_⟩, fun l j q1 q2 q3 => ?_⟩, Or.inr ⟨by omega, by omega, fun l => rfl⟩⟩
  · have z := hq l q1 q2
    unfold rq at z ⊢
    rw [hf.1 82 (by decide) (by omega), hf.1 83 (by decide) (by omega), hf.1 84 (by decide) (by omega)]
    exact z
  · unfold kO
    split <;> omega
  · unfold kO
    split <;> omega
  · unfold kO
    (repeat' split) <;> omega
theorem lo_cv {mem m : zMem} {k : Int} (hK : moK mem) (hc : curE mem 3 mem) (hk : 0 ≤ k ∧ k < mem 80 2) (hf : frL mem m) (hM : ML m k (lpA mem k)) : clA m = cnR (roV mem k) 0 := by
  obtain ⟨hL, hP⟩ := lo_LK hK hc hk hf hM
  have e15 := hL.2.1.2.2.1.2.1
  unfold clA cnR
  rw [e15]
  have e : zsm (fun n => m 91 n) (2 * (ptR (roV mem k) 0).1 + 1 - 0).toNat 0 = zsm (fun s => tpR (roV mem k) 0 s / 2) (2 * (ptR (roV mem k) 0).1 + 1 - 0).toNat 0 := by
    refine zsm_cong _ _ (fun s q1 q2 => ?_)
    have hs : 0 ≤ s ∧ s < 2 * (ptR (roV mem k) 0).1 + 1 := ⟨q1, by omega⟩
    show m 91 s = tpR (roV mem k) 0 s / 2
    rw [(hL.2.1.2.2.2 s hs.1 hs.2).1, sc_ns hL hP hs]
    unfold tpR
    omega
  have e2 : zsm (fun n => 2 * m 91 n + 1) (2 * (ptR (roV mem k) 0).1 + 1 - 0).toNat 0 = ((2 * (ptR (roV mem k) 0).1 + 1 - 0).toNat : Int) + 2 * zsm (fun n => m 91 n) (2 * (ptR (roV mem k) 0).1 + 1 - 0).toNat 0 := zsm_2 (f := fun n => m 91 n) _ _
  have a0 := hL.2.1.1.1
  omega
theorem cnR_r {mem : zMem} {k : Int} (hK : moK mem) (hc : curE mem 3 mem) (hk : 0 ≤ k ∧ k < mem 80 2) : 0 ≤ cnR (roV mem k) 0 ∧ cnR (roV mem k) 0 ≤ 225 := by
  have k1 := hK.1
  have n1 := hc.1
  have e1 := roV_1 mem k
  have hq : ∀ l, 0 ≤ l → l < roV mem k 0 1 → rq (roV mem k) 0 l mem (kO k l) := fun l q1 q2 => by
    unfold rq kO
    rw [roV_l q1, roV_l q1, roV_l q1]
    by_cases e : l < k
    · rw [if_pos e, if_pos e, if_pos e, if_pos e]
      exact hc.2 l q1 (by omega)
    · rw [if_neg e, if_neg e, if_neg e, if_neg e]
      exact hc.2 (l + 1) (by omega) (by omega)
  have hp : lpA mem k = ptR (roV mem k) 0 := lp_out ⟨hk, by omega, fun l q1 q2 => hq l q1 q2⟩
  have hh := lpA_h (out := k) hK
  rw [hp] at hh
  have b0 := hh.1.1.1
  have b1 := hh.2.1
  unfold lpB at b1
  have z := zsm_b (f := fun s => tpR (roV mem k) 0 s / 2) (B := 4) (2 * (ptR (roV mem k) 0).1 + 1 - 0).toNat 0 (fun s _ _ => by
    have y := zsm_r (f := fun o => zb (isM (rowM (roV mem k) 0 4) (wR (roV mem k) 0 s) o)) (fun j => by have := zb_01 (isM (rowM (roV mem k) 0 4) (wR (roV mem k) 0 s) j); omega) (roV mem k 0 1 - 0).toNat 0
    show 0 ≤ tpR (roV mem k) 0 s / 2 ∧ tpR (roV mem k) 0 s / 2 ≤ 4
    unfold tpR nsM
    omega)
  unfold cnR
  omega
theorem lo_fo {mem : zMem} : ∀ (k : Nat) (i : Int) (s : Int × Int), 0 ≤ i → s.1 ≠ -1 → zfo (loF mem) k i s = zfo (lsF (fun c => cnR (roV mem c) 0)) k i s
  | 0, _, _, _, _ => rfl
  | k + 1, i, s, hi, hs => by
    have e : loF mem i s = lsF (fun c => cnR (roV mem c) 0) i s := by
      unfold loF lsF
      by_cases q : cnR (roV mem i) 0 < s.2
      · rw [if_pos q, if_pos (Or.inr q)]
      · rw [if_neg q, if_neg (fun z => by
          rcases z with z | z
          · exact hs z
          · exact q z)]
    show zfo (loF mem) k (i + 1) (loF mem i s) = zfo _ k (i + 1) (lsF _ i s)
    rw [← e]
    refine lo_fo k (i + 1) _ (by omega) ?_
    unfold loF
    split
    · show i ≠ -1
      omega
    · exact hs
theorem lo_eq {mem : zMem} (hK : moK mem) (hc : curE mem 3 mem) (h2 : 1 < mem 80 2) : (zfo (loF mem) (mem 3 1 - 0).toNat 0 (-1, 226)).1 = (zfo (lsF (fun c => cnR (roV mem c) 0)) (mem 80 2 - 0).toNat 0 (-1, 0)).1 := by
  have r := cnR_r (k := 0) hK hc (by omega)
  have n1 := hc.1
  rw [← n1, zfo_s (n := mem 80 2) (i := 0) (by omega), zfo_s (n := mem 80 2) (i := 0) (by omega)]
  have e1 : loF mem 0 (-1, 226) = (0, cnR (roV mem 0) 0) := by unfold loF; rw [if_pos (show cnR (roV mem 0) 0 < 226 by omega)]
  have e2 : lsF (fun c => cnR (roV mem c) 0) 0 (-1, 0) = (0, cnR (roV mem 0) 0) := by unfold lsF; rw [if_pos (Or.inl rfl)]
  rw [e1, e2, lo_fo _ _ _ (by omega) (by show (0 : Int) ≠ -1; decide)]
