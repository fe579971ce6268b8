/-! the reference: what holds; sentences -/
theorem al_s {p : Int → Prop} {k : Int} (h : 0 ≤ k) : (∀ i, 0 ≤ i → i < k + 1 → p i) ↔ ((∀ i, 0 ≤ i → i < k → p i) ∧ p k) := by
  constructor
  · intro z
    exact ⟨fun i a b => z i a (by omega), z k h (by omega)⟩
  · rintro ⟨z, w⟩ i a b
    by_cases e : i = k
    · rw [e]; exact w
    · exact z i a (by omega)
theorem ex_s {p : Int → Prop} {k : Int} (h : 0 ≤ k) : (∃ i, 0 ≤ i ∧ i < k + 1 ∧ p i) ↔ ((∃ i, 0 ≤ i ∧ i < k ∧ p i) ∨ p k) := by
  constructor
  · rintro ⟨i, a, b, c⟩
    by_cases e : i = k
    · rw [e] at c; exact Or.inr c
    · exact Or.inl ⟨i, a, by omega, c⟩
  · rintro (⟨i, a, b, c⟩ | c)
    · exact ⟨i, a, by omega, c⟩
    · exact ⟨k, h, by omega, c⟩
/-- the flag 'all' and the flag 'some' at the next turn -/
theorem fl_a1 {p : Int → Prop} {k a : Int} (h : 0 ≤ k) (i : a = zb (∀ i, 0 ≤ i → i < k → p i)) (ha : a ≠ 0) (hp : p k) : 1 = zb (∀ i, 0 ≤ i → i < k + 1 → p i) := by
  rw [zb_t ((al_s h).mpr ⟨zb_1.mp (by have := zb_01 (∀ i, 0 ≤ i → i < k → p i); omega), hp⟩)]
theorem fl_a0 {p : Int → Prop} {k a : Int} (h : 0 ≤ k) (i : a = zb (∀ i, 0 ≤ i → i < k → p i)) (ha : a = 0) : 0 = zb (∀ i, 0 ≤ i → i < k + 1 → p i) := by
  rw [zb_f (fun z => by have := zb_t ((al_s h).mp z).1; omega)]
theorem fl_an {p : Int → Prop} {k : Int} (h : 0 ≤ k) (hp : ¬ p k) : 0 = zb (∀ i, 0 ≤ i → i < k + 1 → p i) := by
  rw [zb_f (fun z => hp ((al_s h).mp z).2)]
theorem fl_o1 {p : Int → Prop} {k a : Int} (h : 0 ≤ k) (i : a = zb (∃ i, 0 ≤ i ∧ i < k ∧ p i)) (ha : a ≠ 0) : 1 = zb (∃ i, 0 ≤ i ∧ i < k + 1 ∧ p i) := by
  rw [zb_t ((ex_s h).mpr (Or.inl (zb_1.mp (by have := zb_01 (∃ i, 0 ≤ i ∧ i < k ∧ p i); omega))))]
theorem fl_op {p : Int → Prop} {k : Int} (h : 0 ≤ k) (hp : p k) : 1 = zb (∃ i, 0 ≤ i ∧ i < k + 1 ∧ p i) := by
  rw [zb_t ((ex_s h).mpr (Or.inr hp))]
theorem fl_o0 {p : Int → Prop} {k a : Int} (h : 0 ≤ k) (i : a = zb (∃ i, 0 ≤ i ∧ i < k ∧ p i)) (ha : a = 0) (hp : ¬ p k) : 0 = zb (∃ i, 0 ≤ i ∧ i < k + 1 ∧ p i) := by
  rw [zb_f (fun z => ?_)]
  rcases (ex_s h).mp z with z | z
  · have := zb_t z
    omega
  · exact hp z
def hoM (mem : zMem) (mode f n j : Int) : Prop := (mode = 0 ∧ ∀ k, 0 ≤ k → k < mem 80 2 → soM (fgM f k) (lsM mem n j k)) ∨ (mode ≠ 0 ∧ ∃ k, 0 ≤ k ∧ k < mem 80 2 ∧ (0 < fgM f k ∧ soM (fgM f k) (lsM mem n j k)))
def hiM (mem : zMem) (second mode f n : Int) : Prop := (second = 1 ∧ ∀ j, 0 ≤ j → j < 2 * mem 91 n + 1 → hoM mem mode f n j) ∨ (second ≠ 1 ∧ ∃ j, 0 ≤ j ∧ j < 2 * mem 91 n + 1 ∧ hoM mem mode f n j)
def seM (mem : zMem) (first second mode f : Int) : Prop := (first = 1 ∧ ∀ n, 0 ≤ n → n < mem 80 15 → hiM mem second mode f n) ∨ (first ≠ 1 ∧ ∃ n, 0 ≤ n ∧ n < mem 80 15 ∧ hiM mem second mode f n)
theorem se_1 {mem : zMem} {p q k f n a : Int} (hp : p = 1) (hn : n = mem 80 15) (h : a = zb (∀ i, 0 ≤ i → i < n → (fun n => hiM mem q k f n) i)) : zb (seM mem p q k f) = a := by
  rw [h, hn]
  apply zb_iff
  unfold seM
  exact ⟨fun z => by rcases z with z | z; (exact z.2); (exact absurd hp z.1), fun z => Or.inl ⟨hp, z⟩⟩
theorem se_2 {mem : zMem} {p q k f n a : Int} (hp : p ≠ 1) (hn : n = mem 80 15) (h : a = zb (∃ i, 0 ≤ i ∧ i < n ∧ (fun n => hiM mem q k f n) i)) : zb (seM mem p q k f) = a := by
  rw [h, hn]
  apply zb_iff
  unfold seM
  exact ⟨fun z => by rcases z with z | z; (exact absurd z.1 hp); (exact z.2), fun z => Or.inr ⟨hp, z⟩⟩
theorem s_Mo_holds_l (mem : zMem) (mode f n j : Int) (hL : okL mem) (hmo : I32 mode) (hf : 0 ≤ f ∧ f < 2147483648) (hn : 0 ≤ n ∧ n < mem 80 15) (hj : 0 ≤ j ∧ j < 100) : ∀ (k : Int) (a : Int) (o : Int), (0 ≤ k ∧ k ≤ mem 80 2) → (a = zb (∀ i, 0 ≤ i → i < k → (fun k => soM (fgM f k) (lsM mem n j k)) i)) → (o = zb (∃ i, 0 ≤ i ∧ i < k ∧ (fun k => 0 < fgM f k ∧ soM (fgM f k) (lsM mem n j k)) i)) → zS zT m_Mo_holds (0, 0) 9 [some (2, 80), some (0, mode), some (0, f), some (0, n), some (0, j), some (0, a), some (0, o), some (0, k), none, none] [] mem (zQs (fun r m => r = some (0, zb (hoM mem mode f n j)) ∧ m = mem)) := by
  intro k a o
  obtain ⟨k9, hk9⟩ : ∃ kq : Nat, (mem 80 2 - k).toNat = kq := ⟨_, rfl⟩
  induction k9 using Nat.strongRecOn generalizing k a o with
  | _ k9 ih =>
    intro i0 i1 i2
    have k1 := hL.1.1
    have b1 := hL.2.2.1.1
    have g1 := fgM_r (k := k) hf.1
    have l1 := lsM_r mem n j k
    have z1 := zb_01 (∀ i, 0 ≤ i → i < k → (fun k => soM (fgM f k) (lsM mem n j k)) i)
    have z2 := zb_01 (∃ i, 0 ≤ i ∧ i < k ∧ (fun k => 0 < fgM f k ∧ soM (fgM f k) (lsM mem n j k)) i)
    refine zV_iload d_Mo_holds_9 rfl ?_
    refine zV_aload_n d_Mo_holds_11 rfl ?_
    refine zS_get d_Mo_holds_12 f_Mo_103 rfl rfl ?_
    refine zV_icmp_ge d_Mo_holds_15 (by omega) (by omega) (fun c15 => ?_) (fun c15 => ?_)
    · refine zV_iload_n d_Mo_holds_87 rfl ?_
      refine zV_if_ne d_Mo_holds_88 (by omega) (fun c88 => ?_) (fun c88 => ?_)
      · refine zV_iload d_Mo_holds_96 rfl ?_
        exact zS_zret d_Mo_holds_98 rfl ⟨Nat.zero_le _, Nat.zero_le _⟩ (by omega) (by refine ⟨?_, rfl⟩; rw [i2]; congr 2; apply zb_iff; unfold hoM; rw [show k = mem 80 2 by omega]; exact ⟨fun z => Or.inr ⟨by omega, z⟩, fun z => by rcases z with z | z; (exact absurd z.1 (by omega)); (exact z.2)⟩)
      · refine zV_iload d_Mo_holds_91 rfl ?_
        refine zV_goto d_Mo_holds_93 ?_
        exact zS_zret d_Mo_holds_98 rfl ⟨Nat.zero_le _, Nat.zero_le _⟩ (by omega) (by refine ⟨?_, rfl⟩; rw [i1]; congr 2; apply zb_iff; unfold hoM; rw [show k = mem 80 2 by omega]; exact ⟨fun z => Or.inl ⟨by omega, z⟩, fun z => by rcases z with z | z; (exact z.2); (exact absurd (show mode = 0 by omega) z.1)⟩)
    · refine zV_iload_n d_Mo_holds_18 rfl ?_
      refine zV_iload d_Mo_holds_19 rfl ?_
      refine zS_invsE (mt' := m_Mo_figureOf) (avs := [(0, f), (0, k)]) (st := []) d_Mo_holds_21 l_Mo_245 k_Mo_figureOf rfl rfl rfl rfl (s_Mo_figureOf mem f k hf (by omega)) ?_
      show zS zT m_Mo_holds (0, 0) 24 [some (2, 80), some (0, mode), some (0, f), some (0, n), some (0, j), some (0, a), some (0, o), some (0, k), none, none] [(0, (fgM f k))] mem _
      refine zV_istore (L' := [some (2, 80), some (0, mode), some (0, f), some (0, n), some (0, j), some (0, a), some (0, o), some (0, k), some (0, (fgM f k)), none]) d_Mo_holds_24 (by decide) rfl ?_
      refine zV_iload d_Mo_holds_26 rfl ?_
      refine zV_aload_n d_Mo_holds_28 rfl ?_
      refine zV_iload_n d_Mo_holds_29 rfl ?_
      refine zV_iload d_Mo_holds_30 rfl ?_
      refine zV_iload d_Mo_holds_32 rfl ?_
      refine zS_invvE (mt' := m_Mo_lies) (avs := [(0, n), (0, j), (0, k)]) (st := [(0, (fgM f k))]) d_Mo_holds_34 l_Mo_230 k_Mo_lies rfl rfl rfl rfl rfl (s_Mo_lies mem n j k hL hn (by omega) (by omega)) ?_
      show zS zT m_Mo_holds (0, 0) 37 [some (2, 80), some (0, mode), some (0, f), some (0, n), some (0, j), some (0, a), some (0, o), some (0, k), some (0, (fgM f k)), none] [(0, (lsM mem n j k)), (0, (fgM f k))] mem _
      refine zS_invsE (mt' := m_Mo_isSo) (avs := [(0, (fgM f k)), (0, (lsM mem n j k))]) (st := []) d_Mo_holds_37 l_Mo_248 k_Mo_isSo rfl rfl rfl rfl (s_Mo_isSo mem (fgM f k) (lsM mem n j k) (by omega) (by omega)) ?_
      show zS zT m_Mo_holds (0, 0) 40 [some (2, 80), some (0, mode), some (0, f), some (0, n), some (0, j), some (0, a), some (0, o), some (0, k), some (0, (fgM f k)), none] [(0, (zb (soM (fgM f k) (lsM mem n j k))))] mem _
      refine zV_istore (L' := [some (2, 80), some (0, mode), some (0, f), some (0, n), some (0, j), some (0, a), some (0, o), some (0, k), some (0, (fgM f k)), some (0, (zb (soM (fgM f k) (lsM mem n j k))))]) d_Mo_holds_40 (by decide) rfl ?_
      refine zV_iload d_Mo_holds_42 rfl ?_
      refine zV_if_eq d_Mo_holds_44 (by omega) (fun c44 => ?_) (fun c44 => ?_)
      · refine zV_iconst d_Mo_holds_56 ?_
        refine zV_istore (L' := [some (2, 80), some (0, mode), some (0, f), some (0, n), some (0, j), some (0, 0), some (0, o), some (0, k), some (0, (fgM f k)), some (0, (zb (soM (fgM f k) (lsM mem n j k))))]) d_Mo_holds_57 (by decide) rfl ?_
        refine zV_iload d_Mo_holds_59 rfl ?_
        refine zV_if_ne d_Mo_holds_61 (by omega) (fun c61 => ?_) (fun c61 => ?_)
        · refine zV_iconst d_Mo_holds_74 ?_
          refine zV_goto d_Mo_holds_75 ?_
          refine zV_istore (L' := [some (2, 80), some (0, mode), some (0, f), some (0, n), some (0, j), some (0, 0), some (0, 1), some (0, k), some (0, (fgM f k)), some (0, (zb (soM (fgM f k) (lsM mem n j k))))]) d_Mo_holds_79 (by decide) rfl ?_
          refine zV_iinc (L' := [some (2, 80), some (0, mode), some (0, f), some (0, n), some (0, j), some (0, 0), some (0, 1), some (0, (k + 1)), some (0, (fgM f k)), some (0, (zb (soM (fgM f k) (lsM mem n j k))))]) d_Mo_holds_81 (by decide) rfl rfl ?_
          refine zV_goto d_Mo_holds_84 ?_
          have hg1 : 0 = zb (∀ i, 0 ≤ i → i < k + 1 → (fun k => soM (fgM f k) (lsM mem n j k)) i) := by first | exact fl_a1 i0.1 i1 (by omega) (by assumption) | exact fl_a0 i0.1 i1 (by omega) | exact fl_an i0.1 (by assumption)
          have hg2 : 1 = zb (∃ i, 0 ≤ i ∧ i < k + 1 ∧ (fun k => 0 < fgM f k ∧ soM (fgM f k) (lsM mem n j k)) i) := by first | exact fl_o1 i0.1 i2 (by omega) | exact fl_op i0.1 (show (fun k => 0 < fgM f k ∧ soM (fgM f k) (lsM mem n j k)) k by first | assumption | exact ⟨by omega, by assumption⟩) | exact fl_o0 i0.1 i2 (by omega) (show ¬ (fun k => 0 < fgM f k ∧ soM (fgM f k) (lsM mem n j k)) k by first | assumption | exact fun z => absurd z.2 (by assumption) | exact fun z => by have := z.1; omega)
          refine zV_forget (L' := [some (2, 80), some (0, mode), some (0, f), some (0, n), some (0, j), some (0, 0), some (0, 1), some (0, (k + 1)), none, none]) (by simp [zle]) ?_
          exact ih _ (by omega) (k + 1) _ _ rfl (by omega) hg1 hg2
        · refine zV_iload d_Mo_holds_64 rfl ?_
          refine zV_if_le d_Mo_holds_66 (by omega) (fun c66 => ?_) (fun c66 => ?_)
          · refine zV_iconst d_Mo_holds_78 ?_
            refine zV_istore (L' := [some (2, 80), some (0, mode), some (0, f), some (0, n), some (0, j), some (0, 0), some (0, 0), some (0, k), some (0, (fgM f k)), some (0, (zb (soM (fgM f k) (lsM mem n j k))))]) d_Mo_holds_79 (by decide) rfl ?_
            refine zV_iinc (L' := [some (2, 80), some (0, mode), some (0, f), some (0, n), some (0, j), some (0, 0), some (0, 0), some (0, (k + 1)), some (0, (fgM f k)), some (0, (zb (soM (fgM f k) (lsM mem n j k))))]) d_Mo_holds_81 (by decide) rfl rfl ?_
            refine zV_goto d_Mo_holds_84 ?_
            have hg1 : 0 = zb (∀ i, 0 ≤ i → i < k + 1 → (fun k => soM (fgM f k) (lsM mem n j k)) i) := by first | exact fl_a1 i0.1 i1 (by omega) (by assumption) | exact fl_a0 i0.1 i1 (by omega) | exact fl_an i0.1 (by assumption)
            have hg2 : 0 = zb (∃ i, 0 ≤ i ∧ i < k + 1 ∧ (fun k => 0 < fgM f k ∧ soM (fgM f k) (lsM mem n j k)) i) := by first | exact fl_o1 i0.1 i2 (by omega) | exact fl_op i0.1 (show (fun k => 0 < fgM f k ∧ soM (fgM f k) (lsM mem n j k)) k by first | assumption | exact ⟨by omega, by assumption⟩) | exact fl_o0 i0.1 i2 (by omega) (show ¬ (fun k => 0 < fgM f k ∧ soM (fgM f k) (lsM mem n j k)) k by first | assumption | exact fun z => absurd z.2 (by assumption) | exact fun z => by have := z.1; omega)
            refine zV_forget (L' := [some (2, 80), some (0, mode), some (0, f), some (0, n), some (0, j), some (0, 0), some (0, 0), some (0, (k + 1)), none, none]) (by simp [zle]) ?_
            exact ih _ (by omega) (k + 1) _ _ rfl (by omega) hg1 hg2
          · refine zV_iload d_Mo_holds_69 rfl ?_
            refine zV_ifb_eq d_Mo_holds_71 (fun c71 => ?_) (fun c71 => ?_)
            · refine zV_iconst d_Mo_holds_78 ?_
              refine zV_istore (L' := [some (2, 80), some (0, mode), some (0, f), some (0, n), some (0, j), some (0, 0), some (0, 0), some (0, k), some (0, (fgM f k)), some (0, (zb (soM (fgM f k) (lsM mem n j k))))]) d_Mo_holds_79 (by decide) rfl ?_
              refine zV_iinc (L' := [some (2, 80), some (0, mode), some (0, f), some (0, n), some (0, j), some (0, 0), some (0, 0), some (0, (k + 1)), some (0, (fgM f k)), some (0, (zb (soM (fgM f k) (lsM mem n j k))))]) d_Mo_holds_81 (by decide) rfl rfl ?_
              refine zV_goto d_Mo_holds_84 ?_
              have hg1 : 0 = zb (∀ i, 0 ≤ i → i < k + 1 → (fun k => soM (fgM f k) (lsM mem n j k)) i) := by first | exact fl_a1 i0.1 i1 (by omega) (by assumption) | exact fl_a0 i0.1 i1 (by omega) | exact fl_an i0.1 (by assumption)
              have hg2 : 0 = zb (∃ i, 0 ≤ i ∧ i < k + 1 ∧ (fun k => 0 < fgM f k ∧ soM (fgM f k) (lsM mem n j k)) i) := by first | exact fl_o1 i0.1 i2 (by omega) | exact fl_op i0.1 (show (fun k => 0 < fgM f k ∧ soM (fgM f k) (lsM mem n j k)) k by first | assumption | exact ⟨by omega, by assumption⟩) | exact fl_o0 i0.1 i2 (by omega) (show ¬ (fun k => 0 < fgM f k ∧ soM (fgM f k) (lsM mem n j k)) k by first | assumption | exact fun z => absurd z.2 (by assumption) | exact fun z => by have := z.1; omega)
              refine zV_forget (L' := [some (2, 80), some (0, mode), some (0, f), some (0, n), some (0, j), some (0, 0), some (0, 0), some (0, (k + 1)), none, none]) (by simp [zle]) ?_
              exact ih _ (by omega) (k + 1) _ _ rfl (by omega) hg1 hg2
            · refine zV_iconst d_Mo_holds_74 ?_
              refine zV_goto d_Mo_holds_75 ?_
              refine zV_istore (L' := [some (2, 80), some (0, mode), some (0, f), some (0, n), some (0, j), some (0, 0), some (0, 1), some (0, k), some (0, (fgM f k)), some (0, (zb (soM (fgM f k) (lsM mem n j k))))]) d_Mo_holds_79 (by decide) rfl ?_
              refine zV_iinc (L' := [some (2, 80), some (0, mode), some (0, f), some (0, n), some (0, j), some (0, 0), some (0, 1), some (0, (k + 1)), some (0, (fgM f k)), some (0, (zb (soM (fgM f k) (lsM mem n j k))))]) d_Mo_holds_81 (by decide) rfl rfl ?_
              refine zV_goto d_Mo_holds_84 ?_
              have hg1 : 0 = zb (∀ i, 0 ≤ i → i < k + 1 → (fun k => soM (fgM f k) (lsM mem n j k)) i) := by first | exact fl_a1 i0.1 i1 (by omega) (by assumption) | exact fl_a0 i0.1 i1 (by omega) | exact fl_an i0.1 (by assumption)
              have hg2 : 1 = zb (∃ i, 0 ≤ i ∧ i < k + 1 ∧ (fun k => 0 < fgM f k ∧ soM (fgM f k) (lsM mem n j k)) i) := by first | exact fl_o1 i0.1 i2 (by omega) | exact fl_op i0.1 (show (fun k => 0 < fgM f k ∧ soM (fgM f k) (lsM mem n j k)) k by first | assumption | exact ⟨by omega, by assumption⟩) | exact fl_o0 i0.1 i2 (by omega) (show ¬ (fun k => 0 < fgM f k ∧ soM (fgM f k) (lsM mem n j k)) k by first | assumption | exact fun z => absurd z.2 (by assumption) | exact fun z => by have := z.1; omega)
              refine zV_forget (L' := [some (2, 80), some (0, mode), some (0, f), some (0, n), some (0, j), some (0, 0), some (0, 1), some (0, (k + 1)), none, none]) (by simp [zle]) ?_
              exact ih _ (by omega) (k + 1) _ _ rfl (by omega) hg1 hg2
      · refine zV_iload d_Mo_holds_47 rfl ?_
        refine zV_ifb_eq d_Mo_holds_49 (fun c49 => ?_) (fun c49 => ?_)
        · refine zV_iconst d_Mo_holds_56 ?_
          refine zV_istore (L' := [some (2, 80), some (0, mode), some (0, f), some (0, n), some (0, j), some (0, 0), some (0, o), some (0, k), some (0, (fgM f k)), some (0, (zb (soM (fgM f k) (lsM mem n j k))))]) d_Mo_holds_57 (by decide) rfl ?_
          refine zV_iload d_Mo_holds_59 rfl ?_
          refine zV_if_ne d_Mo_holds_61 (by omega) (fun c61 => ?_) (fun c61 => ?_)
          · refine zV_iconst d_Mo_holds_74 ?_
            refine zV_goto d_Mo_holds_75 ?_
            refine zV_istore (L' := [some (2, 80), some (0, mode), some (0, f), some (0, n), some (0, j), some (0, 0), some (0, 1), some (0, k), some (0, (fgM f k)), some (0, (zb (soM (fgM f k) (lsM mem n j k))))]) d_Mo_holds_79 (by decide) rfl ?_
            refine zV_iinc (L' := [some (2, 80), some (0, mode), some (0, f), some (0, n), some (0, j), some (0, 0), some (0, 1), some (0, (k + 1)), some (0, (fgM f k)), some (0, (zb (soM (fgM f k) (lsM mem n j k))))]) d_Mo_holds_81 (by decide) rfl rfl ?_
            refine zV_goto d_Mo_holds_84 ?_
            have hg1 : 0 = zb (∀ i, 0 ≤ i → i < k + 1 → (fun k => soM (fgM f k) (lsM mem n j k)) i) := by first | exact fl_a1 i0.1 i1 (by omega) (by assumption) | exact fl_a0 i0.1 i1 (by omega) | exact fl_an i0.1 (by assumption)
            have hg2 : 1 = zb (∃ i, 0 ≤ i ∧ i < k + 1 ∧ (fun k => 0 < fgM f k ∧ soM (fgM f k) (lsM mem n j k)) i) := by first | exact fl_o1 i0.1 i2 (by omega) | exact fl_op i0.1 (show (fun k => 0 < fgM f k ∧ soM (fgM f k) (lsM mem n j k)) k by first | assumption | exact ⟨by omega, by assumption⟩) | exact fl_o0 i0.1 i2 (by omega) (show ¬ (fun k => 0 < fgM f k ∧ soM (fgM f k) (lsM mem n j k)) k by first | assumption | exact fun z => absurd z.2 (by assumption) | exact fun z => by have := z.1; omega)
            refine zV_forget (L' := [some (2, 80), some (0, mode), some (0, f), some (0, n), some (0, j), some (0, 0), some (0, 1), some (0, (k + 1)), none, none]) (by simp [zle]) ?_
            exact ih _ (by omega) (k + 1) _ _ rfl (by omega) hg1 hg2
          · refine zV_iload d_Mo_holds_64 rfl ?_
            refine zV_if_le d_Mo_holds_66 (by omega) (fun c66 => ?_) (fun c66 => ?_)
            · refine zV_iconst d_Mo_holds_78 ?_
              refine zV_istore (L' := [some (2, 80), some (0, mode), some (0, f), some (0, n), some (0, j), some (0, 0), some (0, 0), some (0, k), some (0, (fgM f k)), some (0, (zb (soM (fgM f k) (lsM mem n j k))))]) d_Mo_holds_79 (by decide) rfl ?_
              refine zV_iinc (L' := [some (2, 80), some (0, mode), some (0, f), some (0, n), some (0, j), some (0, 0), some (0, 0), some (0, (k + 1)), some (0, (fgM f k)), some (0, (zb (soM (fgM f k) (lsM mem n j k))))]) d_Mo_holds_81 (by decide) rfl rfl ?_
              refine zV_goto d_Mo_holds_84 ?_
              have hg1 : 0 = zb (∀ i, 0 ≤ i → i < k + 1 → (fun k => soM (fgM f k) (lsM mem n j k)) i) := by first | exact fl_a1 i0.1 i1 (by omega) (by assumption) | exact fl_a0 i0.1 i1 (by omega) | exact fl_an i0.1 (by assumption)
              have hg2 : 0 = zb (∃ i, 0 ≤ i ∧ i < k + 1 ∧ (fun k => 0 < fgM f k ∧ soM (fgM f k) (lsM mem n j k)) i) := by first | exact fl_o1 i0.1 i2 (by omega) | exact fl_op i0.1 (show (fun k => 0 < fgM f k ∧ soM (fgM f k) (lsM mem n j k)) k by first | assumption | exact ⟨by omega, by assumption⟩) | exact fl_o0 i0.1 i2 (by omega) (show ¬ (fun k => 0 < fgM f k ∧ soM (fgM f k) (lsM mem n j k)) k by first | assumption | exact fun z => absurd z.2 (by assumption) | exact fun z => by have := z.1; omega)
              refine zV_forget (L' := [some (2, 80), some (0, mode), some (0, f), some (0, n), some (0, j), some (0, 0), some (0, 0), some (0, (k + 1)), none, none]) (by simp [zle]) ?_
              exact ih _ (by omega) (k + 1) _ _ rfl (by omega) hg1 hg2
            · refine zV_iload d_Mo_holds_69 rfl ?_
              refine zV_ifb_eq d_Mo_holds_71 (fun c71 => ?_) (fun c71 => ?_)
              · refine zV_iconst d_Mo_holds_78 ?_
                refine zV_istore (L' := [some (2, 80), some (0, mode), some (0, f), some (0, n), some (0, j), some (0, 0), some (0, 0), some (0, k), some (0, (fgM f k)), some (0, (zb (soM (fgM f k) (lsM mem n j k))))]) d_Mo_holds_79 (by decide) rfl ?_
                refine zV_iinc (L' := [some (2, 80), some (0, mode), some (0, f), some (0, n), some (0, j), some (0, 0), some (0, 0), some (0, (k + 1)), some (0, (fgM f k)), some (0, (zb (soM (fgM f k) (lsM mem n j k))))]) d_Mo_holds_81 (by decide) rfl rfl ?_
                refine zV_goto d_Mo_holds_84 ?_
                have hg1 : 0 = zb (∀ i, 0 ≤ i → i < k + 1 → (fun k => soM (fgM f k) (lsM mem n j k)) i) := by first | exact fl_a1 i0.1 i1 (by omega) (by assumption) | exact fl_a0 i0.1 i1 (by omega) | exact fl_an i0.1 (by assumption)
                have hg2 : 0 = zb (∃ i, 0 ≤ i ∧ i < k + 1 ∧ (fun k => 0 < fgM f k ∧ soM (fgM f k) (lsM mem n j k)) i) := by first | exact fl_o1 i0.1 i2 (by omega) | exact fl_op i0.1 (show (fun k => 0 < fgM f k ∧ soM (fgM f k) (lsM mem n j k)) k by first | assumption | exact ⟨by omega, by assumption⟩) | exact fl_o0 i0.1 i2 (by omega) (show ¬ (fun k => 0 < fgM f k ∧ soM (fgM f k) (lsM mem n j k)) k by first | assumption | exact fun z => absurd z.2 (by assumption) | exact fun z => by have := z.1; omega)
                refine zV_forget (L' := [some (2, 80), some (0, mode), some (0, f), some (0, n), some (0, j), some (0, 0), some (0, 0), some (0, (k + 1)), none, none]) (by simp [zle]) ?_
                exact ih _ (by omega) (k + 1) _ _ rfl (by omega) hg1 hg2
              · refine zV_iconst d_Mo_holds_74 ?_
                refine zV_goto d_Mo_holds_75 ?_
                refine zV_istore (L' := [some (2, 80), some (0, mode), some (0, f), some (0, n), some (0, j), some (0, 0), some (0, 1), some (0, k), some (0, (fgM f k)), some (0, (zb (soM (fgM f k) (lsM mem n j k))))]) d_Mo_holds_79 (by decide) rfl ?_
                refine zV_iinc (L' := [some (2, 80), some (0, mode), some (0, f), some (0, n), some (0, j), some (0, 0), some (0, 1), some (0, (k + 1)), some (0, (fgM f k)), some (0, (zb (soM (fgM f k) (lsM mem n j k))))]) d_Mo_holds_81 (by decide) rfl rfl ?_
                refine zV_goto d_Mo_holds_84 ?_
                have hg1 : 0 = zb (∀ i, 0 ≤ i → i < k + 1 → (fun k => soM (fgM f k) (lsM mem n j k)) i) := by first | exact fl_a1 i0.1 i1 (by omega) (by assumption) | exact fl_a0 i0.1 i1 (by omega) | exact fl_an i0.1 (by assumption)
                have hg2 : 1 = zb (∃ i, 0 ≤ i ∧ i < k + 1 ∧ (fun k => 0 < fgM f k ∧ soM (fgM f k) (lsM mem n j k)) i) := by first | exact fl_o1 i0.1 i2 (by omega) | exact fl_op i0.1 (show (fun k => 0 < fgM f k ∧ soM (fgM f k) (lsM mem n j k)) k by first | assumption | exact ⟨by omega, by assumption⟩) | exact fl_o0 i0.1 i2 (by omega) (show ¬ (fun k => 0 < fgM f k ∧ soM (fgM f k) (lsM mem n j k)) k by first | assumption | exact fun z => absurd z.2 (by assumption) | exact fun z => by have := z.1; omega)
                refine zV_forget (L' := [some (2, 80), some (0, mode), some (0, f), some (0, n), some (0, j), some (0, 0), some (0, 1), some (0, (k + 1)), none, none]) (by simp [zle]) ?_
                exact ih _ (by omega) (k + 1) _ _ rfl (by omega) hg1 hg2
        · refine zV_iconst d_Mo_holds_52 ?_
          refine zV_goto d_Mo_holds_53 ?_
          refine zV_istore (L' := [some (2, 80), some (0, mode), some (0, f), some (0, n), some (0, j), some (0, 1), some (0, o), some (0, k), some (0, (fgM f k)), some (0, (zb (soM (fgM f k) (lsM mem n j k))))]) d_Mo_holds_57 (by decide) rfl ?_
          refine zV_iload d_Mo_holds_59 rfl ?_
          refine zV_if_ne d_Mo_holds_61 (by omega) (fun c61 => ?_) (fun c61 => ?_)
          · refine zV_iconst d_Mo_holds_74 ?_
            refine zV_goto d_Mo_holds_75 ?_
            refine zV_istore (L' := [some (2, 80), some (0, mode), some (0, f), some (0, n), some (0, j), some (0, 1), some (0, 1), some (0, k), some (0, (fgM f k)), some (0, (zb (soM (fgM f k) (lsM mem n j k))))]) d_Mo_holds_79 (by decide) rfl ?_
            refine zV_iinc (L' := [some (2, 80), some (0, mode), some (0, f), some (0, n), some (0, j), some (0, 1), some (0, 1), some (0, (k + 1)), some (0, (fgM f k)), some (0, (zb (soM (fgM f k) (lsM mem n j k))))]) d_Mo_holds_81 (by decide) rfl rfl ?_
            refine zV_goto d_Mo_holds_84 ?_
            have hg1 : 1 = zb (∀ i, 0 ≤ i → i < k + 1 → (fun k => soM (fgM f k) (lsM mem n j k)) i) := by first | exact fl_a1 i0.1 i1 (by omega) (by assumption) | exact fl_a0 i0.1 i1 (by omega) | exact fl_an i0.1 (by assumption)
            have hg2 : 1 = zb (∃ i, 0 ≤ i ∧ i < k + 1 ∧ (fun k => 0 < fgM f k ∧ soM (fgM f k) (lsM mem n j k)) i) := by first | exact fl_o1 i0.1 i2 (by omega) | exact fl_op i0.1 (show (fun k => 0 < fgM f k ∧ soM (fgM f k) (lsM mem n j k)) k by first | assumption | exact ⟨by omega, by assumption⟩) | exact fl_o0 i0.1 i2 (by omega) (show ¬ (fun k => 0 < fgM f k ∧ soM (fgM f k) (lsM mem n j k)) k by first | assumption | exact fun z => absurd z.2 (by assumption) | exact fun z => by have := z.1; omega)
            refine zV_forget (L' := [some (2, 80), some (0, mode), some (0, f), some (0, n), some (0, j), some (0, 1), some (0, 1), some (0, (k + 1)), none, none]) (by simp [zle]) ?_
            exact ih _ (by omega) (k + 1) _ _ rfl (by omega) hg1 hg2
          · refine zV_iload d_Mo_holds_64 rfl ?_
            refine zV_if_le d_Mo_holds_66 (by omega) (fun c66 => ?_) (fun c66 => ?_)
            · refine zV_iconst d_Mo_holds_78 ?_
              refine zV_istore (L' := [some (2, 80), some (0, mode), some (0, f), some (0, n), some (0, j), some (0, 1), some (0, 0), some (0, k), some (0, (fgM f k)), some (0, (zb (soM (fgM f k) (lsM mem n j k))))]) d_Mo_holds_79 (by decide) rfl ?_
              refine zV_iinc (L' := [some (2, 80), some (0, mode), some (0, f), some (0, n), some (0, j), some (0, 1), some (0, 0), some (0, (k + 1)), some (0, (fgM f k)), some (0, (zb (soM (fgM f k) (lsM mem n j k))))]) d_Mo_holds_81 (by decide) rfl rfl ?_
              refine zV_goto d_Mo_holds_84 ?_
              have hg1 : 1 = zb (∀ i, 0 ≤ i → i < k + 1 → (fun k => soM (fgM f k) (lsM mem n j k)) i) := by first | exact fl_a1 i0.1 i1 (by omega) (by assumption) | exact fl_a0 i0.1 i1 (by omega) | exact fl_an i0.1 (by assumption)
              have hg2 : 0 = zb (∃ i, 0 ≤ i ∧ i < k + 1 ∧ (fun k => 0 < fgM f k ∧ soM (fgM f k) (lsM mem n j k)) i) := by first | exact fl_o1 i0.1 i2 (by omega) | exact fl_op i0.1 (show (fun k => 0 < fgM f k ∧ soM (fgM f k) (lsM mem n j k)) k by first | assumption | exact ⟨by omega, by assumption⟩) | exact fl_o0 i0.1 i2 (by omega) (show ¬ (fun k => 0 < fgM f k ∧ soM (fgM f k) (lsM mem n j k)) k by first | assumption | exact fun z => absurd z.2 (by assumption) | exact fun z => by have := z.1; omega)
              refine zV_forget (L' := [some (2, 80), some (0, mode), some (0, f), some (0, n), some (0, j), some (0, 1), some (0, 0), some (0, (k + 1)), none, none]) (by simp [zle]) ?_
              exact ih _ (by omega) (k + 1) _ _ rfl (by omega) hg1 hg2
            · refine zV_iload d_Mo_holds_69 rfl ?_
              refine zV_ifb_eq d_Mo_holds_71 (fun c71 => ?_) (fun c71 => ?_)
              · refine zV_iconst d_Mo_holds_78 ?_
                refine zV_istore (L' := [some (2, 80), some (0, mode), some (0, f), some (0, n), some (0, j), some (0, 1), some (0, 0), some (0, k), some (0, (fgM f k)), some (0, (zb (soM (fgM f k) (lsM mem n j k))))]) d_Mo_holds_79 (by decide) rfl ?_
                refine zV_iinc (L' := [some (2, 80), some (0, mode), some (0, f), some (0, n), some (0, j), some (0, 1), some (0, 0), some (0, (k + 1)), some (0, (fgM f k)), some (0, (zb (soM (fgM f k) (lsM mem n j k))))]) d_Mo_holds_81 (by decide) rfl rfl ?_
                refine zV_goto d_Mo_holds_84 ?_
                have hg1 : 1 = zb (∀ i, 0 ≤ i → i < k + 1 → (fun k => soM (fgM f k) (lsM mem n j k)) i) := by first | exact fl_a1 i0.1 i1 (by omega) (by assumption) | exact fl_a0 i0.1 i1 (by omega) | exact fl_an i0.1 (by assumption)
                have hg2 : 0 = zb (∃ i, 0 ≤ i ∧ i < k + 1 ∧ (fun k => 0 < fgM f k ∧ soM (fgM f k) (lsM mem n j k)) i) := by first | exact fl_o1 i0.1 i2 (by omega) | exact fl_op i0.1 (show (fun k => 0 < fgM f k ∧ soM (fgM f k) (lsM mem n j k)) k by first | assumption | exact ⟨by omega, by assumption⟩) | exact fl_o0 i0.1 i2 (by omega) (show ¬ (fun k => 0 < fgM f k ∧ soM (fgM f k) (lsM mem n j k)) k by first | assumption | exact fun z => absurd z.2 (by assumption) | exact fun z => by have := z.1; omega)
                refine zV_forget (L' := [some (2, 80), some (0, mode), some (0, f), some (0, n), some (0, j), some (0, 1), some (0, 0), some (0, (k + 1)), none, none]) (by simp [zle]) ?_
                exact ih _ (by omega) (k + 1) _ _ rfl (by omega) hg1 hg2
              · refine zV_iconst d_Mo_holds_74 ?_
                refine zV_goto d_Mo_holds_75 ?_
                refine zV_istore (L' := [some (2, 80), some (0, mode), some (0, f), some (0, n), some (0, j), some (0, 1), some (0, 1), some (0, k), some (0, (fgM f k)), some (0, (zb (soM (fgM f k) (lsM mem n j k))))]) d_Mo_holds_79 (by decide) rfl ?_
                refine zV_iinc (L' := [some (2, 80), some (0, mode), some (0, f), some (0, n), some (0, j), some (0, 1), some (0, 1), some (0, (k + 1)), some (0, (fgM f k)), some (0, (zb (soM (fgM f k) (lsM mem n j k))))]) d_Mo_holds_81 (by decide) rfl rfl ?_
                refine zV_goto d_Mo_holds_84 ?_
                have hg1 : 1 = zb (∀ i, 0 ≤ i → i < k + 1 → (fun k => soM (fgM f k) (lsM mem n j k)) i) := by first | exact fl_a1 i0.1 i1 (by omega) (by assumption) | exact fl_a0 i0.1 i1 (by omega) | exact fl_an i0.1 (by assumption)
                have hg2 : 1 = zb (∃ i, 0 ≤ i ∧ i < k + 1 ∧ (fun k => 0 < fgM f k ∧ soM (fgM f k) (lsM mem n j k)) i) := by first | exact fl_o1 i0.1 i2 (by omega) | exact fl_op i0.1 (show (fun k => 0 < fgM f k ∧ soM (fgM f k) (lsM mem n j k)) k by first | assumption | exact ⟨by omega, by assumption⟩) | exact fl_o0 i0.1 i2 (by omega) (show ¬ (fun k => 0 < fgM f k ∧ soM (fgM f k) (lsM mem n j k)) k by first | assumption | exact fun z => absurd z.2 (by assumption) | exact fun z => by have := z.1; omega)
                refine zV_forget (L' := [some (2, 80), some (0, mode), some (0, f), some (0, n), some (0, j), some (0, 1), some (0, 1), some (0, (k + 1)), none, none]) (by simp [zle]) ?_
                exact ih _ (by omega) (k + 1) _ _ rfl (by omega) hg1 hg2
theorem s_Mo_holds (mem : zMem) (mode f n j : Int) (hL : okL mem) (hmo : I32 mode) (hf : 0 ≤ f ∧ f < 2147483648) (hn : 0 ≤ n ∧ n < mem 80 15) (hj : 0 ≤ j ∧ j < 100) : zF m_Mo_holds [(2, 80), (0, mode), (0, f), (0, n), (0, j)] mem (fun r m => r = some (0, zb (hoM mem mode f n j)) ∧ m = mem) := by
  have k1 := hL.1.1
  refine zF_of (by decide) (Nat.le_of_ble_eq_true rfl) ?_
  show zS zT m_Mo_holds (0, 0) 0 [some (2, 80), some (0, mode), some (0, f), some (0, n), some (0, j), none, none, none, none, none] [] mem _
  refine zV_iconst d_Mo_holds_0 ?_
  refine zV_istore (L' := [some (2, 80), some (0, mode), some (0, f), some (0, n), some (0, j), some (0, 1), none, none, none, none]) d_Mo_holds_1 (by decide) rfl ?_
  refine zV_iconst d_Mo_holds_3 ?_
  refine zV_istore (L' := [some (2, 80), some (0, mode), some (0, f), some (0, n), some (0, j), some (0, 1), some (0, 0), none, none, none]) d_Mo_holds_4 (by decide) rfl ?_
  refine zV_iconst d_Mo_holds_6 ?_
  refine zV_istore (L' := [some (2, 80), some (0, mode), some (0, f), some (0, n), some (0, j), some (0, 1), some (0, 0), some (0, 0), none, none]) d_Mo_holds_7 (by decide) rfl ?_
  refine s_Mo_holds_l mem mode f n j hL hmo hf hn hj 0 1 0 (by omega) ?_ ?_
  · rw [zb_t (fun i a b => by omega)]
  · rw [zb_f (fun z => by obtain ⟨i, a, b, _⟩ := z; omega)]
theorem s_Mo_holdsIn_l (mem : zMem) (second mode f n : Int) (hL : okL mem) (hs : I32 second) (hmo : I32 mode) (hf : 0 ≤ f ∧ f < 2147483648) (hn : 0 ≤ n ∧ n < mem 80 15) : ∀ (j : Int) (a : Int) (o : Int), (0 ≤ j ∧ j ≤ 2 * mem 91 n + 1) → (a = zb (∀ i, 0 ≤ i → i < j → (fun j => hoM mem mode f n j) i)) → (o = zb (∃ i, 0 ≤ i ∧ i < j ∧ (fun j => hoM mem mode f n j) i)) → zS zT m_Mo_holdsIn (0, 0) 9 [some (2, 80), some (0, second), some (0, mode), some (0, f), some (0, n), some (0, a), some (0, o), some (0, j), none] [] mem (zQs (fun r m => r = some (0, zb (hiM mem second mode f n)) ∧ m = mem)) := by
  intro j a o
  obtain ⟨k9, hk9⟩ : ∃ kq : Nat, (2 * mem 91 n + 1 - j).toNat = kq := ⟨_, rfl⟩
  induction k9 using Nat.strongRecOn generalizing j a o with
  | _ k9 ih =>
    intro i0 i1 i2
    have k1 := hL.1.1
    have b1 := hL.2.2.1.1
    have s1 := hL.2.2.2.1 n hn.1 hn.2
    have z1 := zb_01 (∀ i, 0 ≤ i → i < j → (fun j => hoM mem mode f n j) i)
    have z2 := zb_01 (∃ i, 0 ≤ i ∧ i < j ∧ (fun j => hoM mem mode f n j) i)
    refine zV_iload d_Mo_holdsIn_9 rfl ?_
    refine zV_aload_n d_Mo_holdsIn_11 rfl ?_
    refine zV_iload d_Mo_holdsIn_12 rfl ?_
    refine zS_invvE (mt' := m_Mo_cellsIn) (avs := [(0, n)]) (st := [(0, j)]) d_Mo_holdsIn_14 l_Mo_210 k_Mo_cellsIn rfl rfl rfl rfl rfl (s_Mo_cellsIn mem n (by omega)) ?_
    show zS zT m_Mo_holdsIn (0, 0) 17 [some (2, 80), some (0, second), some (0, mode), some (0, f), some (0, n), some (0, a), some (0, o), some (0, j), none] [(0, (2 * mem 91 n + 1)), (0, j)] mem _
    refine zV_icmp_ge d_Mo_holdsIn_17 (by omega) (by omega) (fun c17 => ?_) (fun c17 => ?_)
    · refine zV_iload_n d_Mo_holdsIn_72 rfl ?_
      refine zV_iconst d_Mo_holdsIn_73 ?_
      refine zV_icmp_ne d_Mo_holdsIn_74 (by omega) (by omega) (fun c74 => ?_) (fun c74 => ?_)
      · refine zV_iload d_Mo_holdsIn_82 rfl ?_
        exact zS_zret d_Mo_holdsIn_84 rfl ⟨Nat.zero_le _, Nat.zero_le _⟩ (by omega) (by refine ⟨?_, rfl⟩; rw [i2]; congr 2; apply zb_iff; unfold hiM; rw [show j = 2 * mem 91 n + 1 by omega]; exact ⟨fun z => Or.inr ⟨by omega, z⟩, fun z => by rcases z with z | z; (exact absurd z.1 (by omega)); (exact z.2)⟩)
      · refine zV_iload d_Mo_holdsIn_77 rfl ?_
        refine zV_goto d_Mo_holdsIn_79 ?_
        exact zS_zret d_Mo_holdsIn_84 rfl ⟨Nat.zero_le _, Nat.zero_le _⟩ (by omega) (by refine ⟨?_, rfl⟩; rw [i1]; congr 2; apply zb_iff; unfold hiM; rw [show j = 2 * mem 91 n + 1 by omega]; exact ⟨fun z => Or.inl ⟨by omega, z⟩, fun z => by rcases z with z | z; (exact z.2); (exact absurd (by omega) z.1)⟩)
    · refine zV_aload_n d_Mo_holdsIn_20 rfl ?_
      refine zV_iload_n d_Mo_holdsIn_21 rfl ?_
      refine zV_iload_n d_Mo_holdsIn_22 rfl ?_
      refine zV_iload d_Mo_holdsIn_23 rfl ?_
      refine zV_iload d_Mo_holdsIn_25 rfl ?_
      refine zS_invvE (mt' := m_Mo_holds) (avs := [(0, mode), (0, f), (0, n), (0, j)]) (st := []) d_Mo_holdsIn_27 l_Mo_251 k_Mo_holds rfl rfl rfl rfl rfl (s_Mo_holds mem mode f n j hL hmo hf (by omega) (by omega)) ?_
      show zS zT m_Mo_holdsIn (0, 0) 30 [some (2, 80), some (0, second), some (0, mode), some (0, f), some (0, n), some (0, a), some (0, o), some (0, j), none] [(0, (zb (hoM mem mode f n j)))] mem _
      refine zV_istore (L' := [some (2, 80), some (0, second), some (0, mode), some (0, f), some (0, n), some (0, a), some (0, o), some (0, j), some (0, (zb (hoM mem mode f n j)))]) d_Mo_holdsIn_30 (by decide) rfl ?_
      refine zV_iload d_Mo_holdsIn_32 rfl ?_
      refine zV_if_eq d_Mo_holdsIn_34 (by omega) (fun c34 => ?_) (fun c34 => ?_)
      · refine zV_iconst d_Mo_holdsIn_46 ?_
        refine zV_istore (L' := [some (2, 80), some (0, second), some (0, mode), some (0, f), some (0, n), some (0, 0), some (0, o), some (0, j), some (0, (zb (hoM mem mode f n j)))]) d_Mo_holdsIn_47 (by decide) rfl ?_
        refine zV_iload d_Mo_holdsIn_49 rfl ?_
        refine zV_if_ne d_Mo_holdsIn_51 (by omega) (fun c51 => ?_) (fun c51 => ?_)
        · refine zV_iconst d_Mo_holdsIn_59 ?_
          refine zV_goto d_Mo_holdsIn_60 ?_
          refine zV_istore (L' := [some (2, 80), some (0, second), some (0, mode), some (0, f), some (0, n), some (0, 0), some (0, 1), some (0, j), some (0, (zb (hoM mem mode f n j)))]) d_Mo_holdsIn_64 (by decide) rfl ?_
          refine zV_iinc (L' := [some (2, 80), some (0, second), some (0, mode), some (0, f), some (0, n), some (0, 0), some (0, 1), some (0, (j + 1)), some (0, (zb (hoM mem mode f n j)))]) d_Mo_holdsIn_66 (by decide) rfl rfl ?_
          refine zV_goto d_Mo_holdsIn_69 ?_
          have hg1 : 0 = zb (∀ i, 0 ≤ i → i < j + 1 → (fun j => hoM mem mode f n j) i) := by first | exact fl_a1 i0.1 i1 (by omega) (by assumption) | exact fl_a0 i0.1 i1 (by omega) | exact fl_an i0.1 (by assumption)
          have hg2 : 1 = zb (∃ i, 0 ≤ i ∧ i < j + 1 ∧ (fun j => hoM mem mode f n j) i) := by first | exact fl_o1 i0.1 i2 (by omega) | exact fl_op i0.1 (show (fun j => hoM mem mode f n j) j by first | assumption | exact ⟨by omega, by assumption⟩) | exact fl_o0 i0.1 i2 (by omega) (show ¬ (fun j => hoM mem mode f n j) j by first | assumption | exact fun z => absurd z.2 (by assumption) | exact fun z => by have := z.1; omega)
          refine zV_forget (L' := [some (2, 80), some (0, second), some (0, mode), some (0, f), some (0, n), some (0, 0), some (0, 1), some (0, (j + 1)), none]) (by simp [zle]) ?_
          exact ih _ (by omega) (j + 1) _ _ rfl (by omega) hg1 hg2
        · refine zV_iload d_Mo_holdsIn_54 rfl ?_
          refine zV_ifb_eq d_Mo_holdsIn_56 (fun c56 => ?_) (fun c56 => ?_)
          · refine zV_iconst d_Mo_holdsIn_63 ?_
            refine zV_istore (L' := [some (2, 80), some (0, second), some (0, mode), some (0, f), some (0, n), some (0, 0), some (0, 0), some (0, j), some (0, (zb (hoM mem mode f n j)))]) d_Mo_holdsIn_64 (by decide) rfl ?_
            refine zV_iinc (L' := [some (2, 80), some (0, second), some (0, mode), some (0, f), some (0, n), some (0, 0), some (0, 0), some (0, (j + 1)), some (0, (zb (hoM mem mode f n j)))]) d_Mo_holdsIn_66 (by decide) rfl rfl ?_
            refine zV_goto d_Mo_holdsIn_69 ?_
            have hg1 : 0 = zb (∀ i, 0 ≤ i → i < j + 1 → (fun j => hoM mem mode f n j) i) := by first | exact fl_a1 i0.1 i1 (by omega) (by assumption) | exact fl_a0 i0.1 i1 (by omega) | exact fl_an i0.1 (by assumption)
            have hg2 : 0 = zb (∃ i, 0 ≤ i ∧ i < j + 1 ∧ (fun j => hoM mem mode f n j) i) := by first | exact fl_o1 i0.1 i2 (by omega) | exact fl_op i0.1 (show (fun j => hoM mem mode f n j) j by first | assumption | exact ⟨by omega, by assumption⟩) | exact fl_o0 i0.1 i2 (by omega) (show ¬ (fun j => hoM mem mode f n j) j by first | assumption | exact fun z => absurd z.2 (by assumption) | exact fun z => by have := z.1; omega)
            refine zV_forget (L' := [some (2, 80), some (0, second), some (0, mode), some (0, f), some (0, n), some (0, 0), some (0, 0), some (0, (j + 1)), none]) (by simp [zle]) ?_
            exact ih _ (by omega) (j + 1) _ _ rfl (by omega) hg1 hg2
          · refine zV_iconst d_Mo_holdsIn_59 ?_
            refine zV_goto d_Mo_holdsIn_60 ?_
            refine zV_istore (L' := [some (2, 80), some (0, second), some (0, mode), some (0, f), some (0, n), some (0, 0), some (0, 1), some (0, j), some (0, (zb (hoM mem mode f n j)))]) d_Mo_holdsIn_64 (by decide) rfl ?_
            refine zV_iinc (L' := [some (2, 80), some (0, second), some (0, mode), some (0, f), some (0, n), some (0, 0), some (0, 1), some (0, (j + 1)), some (0, (zb (hoM mem mode f n j)))]) d_Mo_holdsIn_66 (by decide) rfl rfl ?_
            refine zV_goto d_Mo_holdsIn_69 ?_
            have hg1 : 0 = zb (∀ i, 0 ≤ i → i < j + 1 → (fun j => hoM mem mode f n j) i) := by first | exact fl_a1 i0.1 i1 (by omega) (by assumption) | exact fl_a0 i0.1 i1 (by omega) | exact fl_an i0.1 (by assumption)
            have hg2 : 1 = zb (∃ i, 0 ≤ i ∧ i < j + 1 ∧ (fun j => hoM mem mode f n j) i) := by first | exact fl_o1 i0.1 i2 (by omega) | exact fl_op i0.1 (show (fun j => hoM mem mode f n j) j by first | assumption | exact ⟨by omega, by assumption⟩) | exact fl_o0 i0.1 i2 (by omega) (show ¬ (fun j => hoM mem mode f n j) j by first | assumption | exact fun z => absurd z.2 (by assumption) | exact fun z => by have := z.1; omega)
            refine zV_forget (L' := [some (2, 80), some (0, second), some (0, mode), some (0, f), some (0, n), some (0, 0), some (0, 1), some (0, (j + 1)), none]) (by simp [zle]) ?_
            exact ih _ (by omega) (j + 1) _ _ rfl (by omega) hg1 hg2
      · refine zV_iload d_Mo_holdsIn_37 rfl ?_
        refine zV_ifb_eq d_Mo_holdsIn_39 (fun c39 => ?_) (fun c39 => ?_)
        · refine zV_iconst d_Mo_holdsIn_46 ?_
          refine zV_istore (L' := [some (2, 80), some (0, second), some (0, mode), some (0, f), some (0, n), some (0, 0), some (0, o), some (0, j), some (0, (zb (hoM mem mode f n j)))]) d_Mo_holdsIn_47 (by decide) rfl ?_
          refine zV_iload d_Mo_holdsIn_49 rfl ?_
          refine zV_if_ne d_Mo_holdsIn_51 (by omega) (fun c51 => ?_) (fun c51 => ?_)
          · refine zV_iconst d_Mo_holdsIn_59 ?_
            refine zV_goto d_Mo_holdsIn_60 ?_
            refine zV_istore (L' := [some (2, 80), some (0, second), some (0, mode), some (0, f), some (0, n), some (0, 0), some (0, 1), some (0, j), some (0, (zb (hoM mem mode f n j)))]) d_Mo_holdsIn_64 (by decide) rfl ?_
            refine zV_iinc (L' := [some (2, 80), some (0, second), some (0, mode), some (0, f), some (0, n), some (0, 0), some (0, 1), some (0, (j + 1)), some (0, (zb (hoM mem mode f n j)))]) d_Mo_holdsIn_66 (by decide) rfl rfl ?_
            refine zV_goto d_Mo_holdsIn_69 ?_
            have hg1 : 0 = zb (∀ i, 0 ≤ i → i < j + 1 → (fun j => hoM mem mode f n j) i) := by first | exact fl_a1 i0.1 i1 (by omega) (by assumption) | exact fl_a0 i0.1 i1 (by omega) | exact fl_an i0.1 (by assumption)
            have hg2 : 1 = zb (∃ i, 0 ≤ i ∧ i < j + 1 ∧ (fun j => hoM mem mode f n j) i) := by first | exact fl_o1 i0.1 i2 (by omega) | exact fl_op i0.1 (show (fun j => hoM mem mode f n j) j by first | assumption | exact ⟨by omega, by assumption⟩) | exact fl_o0 i0.1 i2 (by omega) (show ¬ (fun j => hoM mem mode f n j) j by first | assumption | exact fun z => absurd z.2 (by assumption) | exact fun z => by have := z.1; omega)
            refine zV_forget (L' := [some (2, 80), some (0, second), some (0, mode), some (0, f), some (0, n), some (0, 0), some (0, 1), some (0, (j + 1)), none]) (by simp [zle]) ?_
            exact ih _ (by omega) (j + 1) _ _ rfl (by omega) hg1 hg2
          · refine zV_iload d_Mo_holdsIn_54 rfl ?_
            refine zV_ifb_eq d_Mo_holdsIn_56 (fun c56 => ?_) (fun c56 => ?_)
            · refine zV_iconst d_Mo_holdsIn_63 ?_
              refine zV_istore (L' := [some (2, 80), some (0, second), some (0, mode), some (0, f), some (0, n), some (0, 0), some (0, 0), some (0, j), some (0, (zb (hoM mem mode f n j)))]) d_Mo_holdsIn_64 (by decide) rfl ?_
              refine zV_iinc (L' := [some (2, 80), some (0, second), some (0, mode), some (0, f), some (0, n), some (0, 0), some (0, 0), some (0, (j + 1)), some (0, (zb (hoM mem mode f n j)))]) d_Mo_holdsIn_66 (by decide) rfl rfl ?_
              refine zV_goto d_Mo_holdsIn_69 ?_
              have hg1 : 0 = zb (∀ i, 0 ≤ i → i < j + 1 → (fun j => hoM mem mode f n j) i) := by first | exact fl_a1 i0.1 i1 (by omega) (by assumption) | exact fl_a0 i0.1 i1 (by omega) | exact fl_an i0.1 (by assumption)
              have hg2 : 0 = zb (∃ i, 0 ≤ i ∧ i < j + 1 ∧ (fun j => hoM mem mode f n j) i) := by first | exact fl_o1 i0.1 i2 (by omega) | exact fl_op i0.1 (show (fun j => hoM mem mode f n j) j by first | assumption | exact ⟨by omega, by assumption⟩) | exact fl_o0 i0.1 i2 (by omega) (show ¬ (fun j => hoM mem mode f n j) j by first | assumption | exact fun z => absurd z.2 (by assumption) | exact fun z => by have := z.1; omega)
              refine zV_forget (L' := [some (2, 80), some (0, second), some (0, mode), some (0, f), some (0, n), some (0, 0), some (0, 0), some (0, (j + 1)), none]) (by simp [zle]) ?_
              exact ih _ (by omega) (j + 1) _ _ rfl (by omega) hg1 hg2
            · refine zV_iconst d_Mo_holdsIn_59 ?_
              refine zV_goto d_Mo_holdsIn_60 ?_
              refine zV_istore (L' := [some (2, 80), some (0, second), some (0, mode), some (0, f), some (0, n), some (0, 0), some (0, 1), some (0, j), some (0, (zb (hoM mem mode f n j)))]) d_Mo_holdsIn_64 (by decide) rfl ?_
              refine zV_iinc (L' := [some (2, 80), some (0, second), some (0, mode), some (0, f), some (0, n), some (0, 0), some (0, 1), some (0, (j + 1)), some (0, (zb (hoM mem mode f n j)))]) d_Mo_holdsIn_66 (by decide) rfl rfl ?_
              refine zV_goto d_Mo_holdsIn_69 ?_
              have hg1 : 0 = zb (∀ i, 0 ≤ i → i < j + 1 → (fun j => hoM mem mode f n j) i) := by first | exact fl_a1 i0.1 i1 (by omega) (by assumption) | exact fl_a0 i0.1 i1 (by omega) | exact fl_an i0.1 (by assumption)
              have hg2 : 1 = zb (∃ i, 0 ≤ i ∧ i < j + 1 ∧ (fun j => hoM mem mode f n j) i) := by first | exact fl_o1 i0.1 i2 (by omega) | exact fl_op i0.1 (show (fun j => hoM mem mode f n j) j by first | assumption | exact ⟨by omega, by assumption⟩) | exact fl_o0 i0.1 i2 (by omega) (show ¬ (fun j => hoM mem mode f n j) j by first | assumption | exact fun z => absurd z.2 (by assumption) | exact fun z => by have := z.1; omega)
              refine zV_forget (L' := [some (2, 80), some (0, second), some (0, mode), some (0, f), some (0, n), some (0, 0), some (0, 1), some (0, (j + 1)), none]) (by simp [zle]) ?_
              exact ih _ (by omega) (j + 1) _ _ rfl (by omega) hg1 hg2
        · refine zV_iconst d_Mo_holdsIn_42 ?_
          refine zV_goto d_Mo_holdsIn_43 ?_
          refine zV_istore (L' := [some (2, 80), some (0, second), some (0, mode), some (0, f), some (0, n), some (0, 1), some (0, o), some (0, j), some (0, (zb (hoM mem mode f n j)))]) d_Mo_holdsIn_47 (by decide) rfl ?_
          refine zV_iload d_Mo_holdsIn_49 rfl ?_
          refine zV_if_ne d_Mo_holdsIn_51 (by omega) (fun c51 => ?_) (fun c51 => ?_)
          · refine zV_iconst d_Mo_holdsIn_59 ?_
            refine zV_goto d_Mo_holdsIn_60 ?_
            refine zV_istore (L' := [some (2, 80), some (0, second), some (0, mode), some (0, f), some (0, n), some (0, 1), some (0, 1), some (0, j), some (0, (zb (hoM mem mode f n j)))]) d_Mo_holdsIn_64 (by decide) rfl ?_
            refine zV_iinc (L' := [some (2, 80), some (0, second), some (0, mode), some (0, f), some (0, n), some (0, 1), some (0, 1), some (0, (j + 1)), some (0, (zb (hoM mem mode f n j)))]) d_Mo_holdsIn_66 (by decide) rfl rfl ?_
            refine zV_goto d_Mo_holdsIn_69 ?_
            have hg1 : 1 = zb (∀ i, 0 ≤ i → i < j + 1 → (fun j => hoM mem mode f n j) i) := by first | exact fl_a1 i0.1 i1 (by omega) (by assumption) | exact fl_a0 i0.1 i1 (by omega) | exact fl_an i0.1 (by assumption)
            have hg2 : 1 = zb (∃ i, 0 ≤ i ∧ i < j + 1 ∧ (fun j => hoM mem mode f n j) i) := by first | exact fl_o1 i0.1 i2 (by omega) | exact fl_op i0.1 (show (fun j => hoM mem mode f n j) j by first | assumption | exact ⟨by omega, by assumption⟩) | exact fl_o0 i0.1 i2 (by omega) (show ¬ (fun j => hoM mem mode f n j) j by first | assumption | exact fun z => absurd z.2 (by assumption) | exact fun z => by have := z.1; omega)
            refine zV_forget (L' := [some (2, 80), some (0, second), some (0, mode), some (0, f), some (0, n), some (0, 1), some (0, 1), some (0, (j + 1)), none]) (by simp [zle]) ?_
            exact ih _ (by omega) (j + 1) _ _ rfl (by omega) hg1 hg2
          · refine zV_iload d_Mo_holdsIn_54 rfl ?_
            refine zV_ifb_eq d_Mo_holdsIn_56 (fun c56 => ?_) (fun c56 => ?_)
            · refine zV_iconst d_Mo_holdsIn_63 ?_
              refine zV_istore (L' := [some (2, 80), some (0, second), some (0, mode), some (0, f), some (0, n), some (0, 1), some (0, 0), some (0, j), some (0, (zb (hoM mem mode f n j)))]) d_Mo_holdsIn_64 (by decide) rfl ?_
              refine zV_iinc (L' := [some (2, 80), some (0, second), some (0, mode), some (0, f), some (0, n), some (0, 1), some (0, 0), some (0, (j + 1)), some (0, (zb (hoM mem mode f n j)))]) d_Mo_holdsIn_66 (by decide) rfl rfl ?_
              refine zV_goto d_Mo_holdsIn_69 ?_
              have hg1 : 1 = zb (∀ i, 0 ≤ i → i < j + 1 → (fun j => hoM mem mode f n j) i) := by first | exact fl_a1 i0.1 i1 (by omega) (by assumption) | exact fl_a0 i0.1 i1 (by omega) | exact fl_an i0.1 (by assumption)
              have hg2 : 0 = zb (∃ i, 0 ≤ i ∧ i < j + 1 ∧ (fun j => hoM mem mode f n j) i) := by first | exact fl_o1 i0.1 i2 (by omega) | exact fl_op i0.1 (show (fun j => hoM mem mode f n j) j by first | assumption | exact ⟨by omega, by assumption⟩) | exact fl_o0 i0.1 i2 (by omega) (show ¬ (fun j => hoM mem mode f n j) j by first | assumption | exact fun z => absurd z.2 (by assumption) | exact fun z => by have := z.1; omega)
              refine zV_forget (L' := [some (2, 80), some (0, second), some (0, mode), some (0, f), some (0, n), some (0, 1), some (0, 0), some (0, (j + 1)), none]) (by simp [zle]) ?_
              exact ih _ (by omega) (j + 1) _ _ rfl (by omega) hg1 hg2
            · refine zV_iconst d_Mo_holdsIn_59 ?_
              refine zV_goto d_Mo_holdsIn_60 ?_
              refine zV_istore (L' := [some (2, 80), some (0, second), some (0, mode), some (0, f), some (0, n), some (0, 1), some (0, 1), some (0, j), some (0, (zb (hoM mem mode f n j)))]) d_Mo_holdsIn_64 (by decide) rfl ?_
              refine zV_iinc (L' := [some (2, 80), some (0, second), some (0, mode), some (0, f), some (0, n), some (0, 1), some (0, 1), some (0, (j + 1)), some (0, (zb (hoM mem mode f n j)))]) d_Mo_holdsIn_66 (by decide) rfl rfl ?_
              refine zV_goto d_Mo_holdsIn_69 ?_
              have hg1 : 1 = zb (∀ i, 0 ≤ i → i < j + 1 → (fun j => hoM mem mode f n j) i) := by first | exact fl_a1 i0.1 i1 (by omega) (by assumption) | exact fl_a0 i0.1 i1 (by omega) | exact fl_an i0.1 (by assumption)
              have hg2 : 1 = zb (∃ i, 0 ≤ i ∧ i < j + 1 ∧ (fun j => hoM mem mode f n j) i) := by first | exact fl_o1 i0.1 i2 (by omega) | exact fl_op i0.1 (show (fun j => hoM mem mode f n j) j by first | assumption | exact ⟨by omega, by assumption⟩) | exact fl_o0 i0.1 i2 (by omega) (show ¬ (fun j => hoM mem mode f n j) j by first | assumption | exact fun z => absurd z.2 (by assumption) | exact fun z => by have := z.1; omega)
              refine zV_forget (L' := [some (2, 80), some (0, second), some (0, mode), some (0, f), some (0, n), some (0, 1), some (0, 1), some (0, (j + 1)), none]) (by simp [zle]) ?_
              exact ih _ (by omega) (j + 1) _ _ rfl (by omega) hg1 hg2
theorem s_Mo_holdsIn (mem : zMem) (second mode f n : Int) (hL : okL mem) (hs : I32 second) (hmo : I32 mode) (hf : 0 ≤ f ∧ f < 2147483648) (hn : 0 ≤ n ∧ n < mem 80 15) : zF m_Mo_holdsIn [(2, 80), (0, second), (0, mode), (0, f), (0, n)] mem (fun r m => r = some (0, zb (hiM mem second mode f n)) ∧ m = mem) := by
  have s1 := hL.2.2.2.1 n hn.1 hn.2
  refine zF_of (by decide) (Nat.le_of_ble_eq_true rfl) ?_
  show zS zT m_Mo_holdsIn (0, 0) 0 [some (2, 80), some (0, second), some (0, mode), some (0, f), some (0, n), none, none, none, none] [] mem _
  refine zV_iconst d_Mo_holdsIn_0 ?_
  refine zV_istore (L' := [some (2, 80), some (0, second), some (0, mode), some (0, f), some (0, n), some (0, 1), none, none, none]) d_Mo_holdsIn_1 (by decide) rfl ?_
  refine zV_iconst d_Mo_holdsIn_3 ?_
  refine zV_istore (L' := [some (2, 80), some (0, second), some (0, mode), some (0, f), some (0, n), some (0, 1), some (0, 0), none, none]) d_Mo_holdsIn_4 (by decide) rfl ?_
  refine zV_iconst d_Mo_holdsIn_6 ?_
  refine zV_istore (L' := [some (2, 80), some (0, second), some (0, mode), some (0, f), some (0, n), some (0, 1), some (0, 0), some (0, 0), none]) d_Mo_holdsIn_7 (by decide) rfl ?_
  refine s_Mo_holdsIn_l mem second mode f n hL hs hmo hf hn 0 1 0 (by omega) ?_ ?_
  · rw [zb_t (fun i a b => by omega)]
  · rw [zb_f (fun z => by obtain ⟨i, a, b, _⟩ := z; omega)]
def shR (m0 : zMem) (k : Int) (m : zMem) : Prop := (∀ a, a ≠ 92 → m a = m0 a) ∧ ∀ j, m 92 j = if k < j ∧ j ≤ 7 then m0 92 (j - 1) else m0 92 j
theorem shR_s {m0 m : zMem} {k : Int} (h : shR m0 k m) (hk : 0 < k ∧ k ≤ 7) : shR m0 (k - 1) (zup m 92 k (m 92 (k - 1))) := by
  obtain ⟨h1, h2⟩ := h
  refine ⟨fun a q => by rw [zup_a q]; exact h1 a q, fun j => ?_⟩
  by_cases e : j = k
  · rw [e, zup_s, h2, if_neg (by omega), if_pos (by omega)]
  · rw [zup_k e, h2]
    by_cases e2 : k < j ∧ j ≤ 7
    · rw [if_pos e2, if_pos (by omega)]
    · rw [if_neg e2, if_neg (by omega)]
def rgM (m1 : zMem) (t : Int) (m : zMem) : Prop := (∀ a, a ≠ 80 → a ≠ 92 → m a = m1 a) ∧ m 92 0 = t ∧ (∀ j, 1 ≤ j → j ≤ 7 → m 92 j = m1 92 (j - 1)) ∧ m 80 20 = (if m1 80 20 < 8 then m1 80 20 + 1 else m1 80 20) ∧ m 80 18 = m1 80 18 + 1 ∧ ∀ k, k ≠ 18 → k ≠ 20 → m 80 k = m1 80 k
theorem rgM_f {m0 m : zMem} {t x : Int} (h : shR m0 0 m) (hx : x = (if m0 80 20 < 8 then m0 80 20 + 1 else m0 80 20)) : rgM m0 t (zup (zup (zup m 92 0 t) 80 20 x) 80 18 (m0 80 18 + 1)) := by
  obtain ⟨h1, h2⟩ := h
  have e80 := h1 80 (by decide)
  refine ⟨fun a q1 q2 => ?_, ?_, fun j q1 q2 => ?_, ?_, zup_s, fun k q1 q2 => ?_⟩
  · rw [zup_a q1, zup_a q1, zup_a q2]; exact h1 a q2
  · rw [zup_c (by decide), zup_c (by decide), zup_s]
  · rw [zup_c (by decide), zup_c (by decide), zup_k (by omega), h2, if_pos (by omega)]
  · rw [zup_k (by decide), zup_s]; exact hx
  · rw [zup_k q1, zup_k q2, zup_c (by decide), e80]
theorem s_Mo_sentence_154 (m0 : zMem) (t : Int) (h20 : 0 ≤ m0 80 20 ∧ m0 80 20 ≤ 8) : ∀ (i : Int) (m : zMem), (0 ≤ i ∧ i ≤ 7) → (shR m0 i m) → zS zT m_Mo_sentence (0, 0) 154 [some (2, 80), none, none, none, none, none, none, some (0, t), some (0, i)] [] m (zQs (fun r m => r = some (0, t) ∧ rgM m0 t m)) := by
  intro i m
  obtain ⟨k9, hk9⟩ : ∃ kq : Nat, i.toNat = kq := ⟨_, rfl⟩
  induction k9 using Nat.strongRecOn generalizing i m with
  | _ k9 ih =>
    intro i0 i1
    have e80 := i1.1 80 (by decide)
    have e20 : m 80 20 = m0 80 20 := by rw [e80]
    have e18 : m 80 18 = m0 80 18 := by rw [e80]
    refine zV_iload d_Mo_sentence_154 rfl ?_
    refine zV_if_le d_Mo_sentence_156 (by omega) (fun c156 => ?_) (fun c156 => ?_)
    · refine zV_aload_n d_Mo_sentence_181 rfl ?_
      refine zS_getr (r := 92) d_Mo_sentence_182 f_Mo_44 rfl rfl rfl ?_
      refine zV_iconst d_Mo_sentence_185 ?_
      refine zV_iload d_Mo_sentence_186 rfl ?_
      refine zS_iast d_Mo_sentence_188 rfl rfl ⟨by omega, by omega⟩ ?_
      refine zV_aload_n d_Mo_sentence_189 rfl ?_
      refine zV_dup d_Mo_sentence_190 (show (2 : Nat) ≠ 1 by decide) ?_
      refine zS_get d_Mo_sentence_191 f_Mo_260 rfl rfl ?_
      rw [show (zup m 92 0 t) 80 20 = (m 80 20) from zup_c (by omega)]
      refine zV_aload_n d_Mo_sentence_194 rfl ?_
      refine zS_get d_Mo_sentence_195 f_Mo_260 rfl rfl ?_
      rw [show (zup m 92 0 t) 80 20 = (m 80 20) from zup_c (by omega)]
      refine zV_bipush d_Mo_sentence_198 ?_
      refine zV_icmp_ge d_Mo_sentence_200 (by omega) (by omega) (fun c200 => ?_) (fun c200 => ?_)
      · refine zV_iconst d_Mo_sentence_207 ?_
        refine zV_iadd d_Mo_sentence_208 ?_
        refine zS_puti d_Mo_sentence_209 f_Mo_260 rfl ⟨rfl, rfl⟩ rfl ?_
        refine zV_aload_n d_Mo_sentence_212 rfl ?_
        refine zV_dup d_Mo_sentence_213 (show (2 : Nat) ≠ 1 by decide) ?_
        refine zS_get d_Mo_sentence_214 f_Mo_263 rfl rfl ?_
        rw [show (zup (zup m 92 0 t) 80 20 ((m 80 20) + 0)) 80 18 = (m 80 18) from (zup_k (by omega)).trans (zup_c (by omega))]
        refine zV_iconst d_Mo_sentence_217 ?_
        refine zV_iadd d_Mo_sentence_218 ?_
        refine zS_puti d_Mo_sentence_219 f_Mo_263 rfl ⟨rfl, rfl⟩ rfl ?_
        refine zV_iload d_Mo_sentence_222 rfl ?_
        exact zS_iret d_Mo_sentence_224 rfl ⟨Nat.zero_le _, Nat.zero_le _⟩ (by refine ⟨rfl, ?_⟩; rw [e18]; refine rgM_f (by rw [show (0 : Int) = i by omega]; exact i1) ?_; first | rw [if_pos (by omega), e20] | (rw [if_neg (by omega), e20]; omega))
      · refine zV_iconst d_Mo_sentence_203 ?_
        refine zV_goto d_Mo_sentence_204 ?_
        refine zV_iadd d_Mo_sentence_208 ?_
        refine zS_puti d_Mo_sentence_209 f_Mo_260 rfl ⟨rfl, rfl⟩ rfl ?_
        refine zV_aload_n d_Mo_sentence_212 rfl ?_
        refine zV_dup d_Mo_sentence_213 (show (2 : Nat) ≠ 1 by decide) ?_
        refine zS_get d_Mo_sentence_214 f_Mo_263 rfl rfl ?_
        rw [show (zup (zup m 92 0 t) 80 20 ((m 80 20) + 1)) 80 18 = (m 80 18) from (zup_k (by omega)).trans (zup_c (by omega))]
        refine zV_iconst d_Mo_sentence_217 ?_
        refine zV_iadd d_Mo_sentence_218 ?_
        refine zS_puti d_Mo_sentence_219 f_Mo_263 rfl ⟨rfl, rfl⟩ rfl ?_
        refine zV_iload d_Mo_sentence_222 rfl ?_
        exact zS_iret d_Mo_sentence_224 rfl ⟨Nat.zero_le _, Nat.zero_le _⟩ (by refine ⟨rfl, ?_⟩; rw [e18]; refine rgM_f (by rw [show (0 : Int) = i by omega]; exact i1) ?_; first | rw [if_pos (by omega), e20] | (rw [if_neg (by omega), e20]; omega))
    · refine zV_aload_n d_Mo_sentence_159 rfl ?_
      refine zS_getr (r := 92) d_Mo_sentence_160 f_Mo_44 rfl rfl rfl ?_
      refine zV_iload d_Mo_sentence_163 rfl ?_
      refine zV_aload_n d_Mo_sentence_165 rfl ?_
      refine zS_getr (r := 92) d_Mo_sentence_166 f_Mo_44 rfl rfl rfl ?_
      refine zV_iload d_Mo_sentence_169 rfl ?_
      refine zV_iconst d_Mo_sentence_171 ?_
      refine zV_isub d_Mo_sentence_172 ?_
      refine zS_iald d_Mo_sentence_173 rfl rfl ⟨by omega, by omega⟩ ?_
      refine zS_iast d_Mo_sentence_174 rfl rfl ⟨by omega, by omega⟩ ?_
      refine zV_iinc (L' := [some (2, 80), none, none, none, none, none, none, some (0, t), some (0, (i + (-1)))]) d_Mo_sentence_175 (by decide) rfl rfl ?_
      refine zV_goto d_Mo_sentence_178 ?_
      exact ih _ (by omega) (i - 1) _ rfl (by omega) (shR_s i1 (by omega))
theorem s_Mo_sentence_64 (mem : zMem) (p q k f : Int) (hL : okL mem) (hp : I32 p) (hq : I32 q) (hk : I32 k) (hf : 0 ≤ f ∧ f < 2147483648) (h20 : 0 ≤ mem 80 20 ∧ mem 80 20 ≤ 8) : ∀ (n : Int) (a : Int) (o : Int), (0 ≤ n ∧ n ≤ mem 80 15) → (a = zb (∀ i, 0 ≤ i → i < n → (fun n => hiM mem q k f n) i)) → (o = zb (∃ i, 0 ≤ i ∧ i < n ∧ (fun n => hiM mem q k f n) i)) → zS zT m_Mo_sentence (0, 0) 64 [some (2, 80), some (0, p), some (0, q), some (0, k), some (0, f), some (0, a), some (0, o), some (0, n), none] [] mem (zQs (fun r m => r = some (0, zb (seM mem p q k f)) ∧ rgM mem (zb (seM mem p q k f)) m)) := by
  intro n a o
  obtain ⟨k9, hk9⟩ : ∃ kq : Nat, (mem 80 15 - n).toNat = kq := ⟨_, rfl⟩
  induction k9 using Nat.strongRecOn generalizing n a o with
  | _ k9 ih =>
    intro i0 i1 i2
    have b1 := hL.2.2.1.1
    have z1 := zb_01 (∀ i, 0 ≤ i → i < n → (fun n => hiM mem q k f n) i)
    have z2 := zb_01 (∃ i, 0 ≤ i ∧ i < n ∧ (fun n => hiM mem q k f n) i)
    refine zV_iload d_Mo_sentence_64 rfl ?_
    refine zV_aload_n d_Mo_sentence_66 rfl ?_
    refine zS_get d_Mo_sentence_67 f_Mo_184 rfl rfl ?_
    refine zV_icmp_ge d_Mo_sentence_70 (by omega) (by omega) (fun c70 => ?_) (fun c70 => ?_)
    · refine zV_iload_n d_Mo_sentence_125 rfl ?_
      refine zV_iconst d_Mo_sentence_126 ?_
      refine zV_icmp_ne d_Mo_sentence_127 (by omega) (by omega) (fun c127 => ?_) (fun c127 => ?_)
      · refine zV_iload d_Mo_sentence_138 rfl ?_
        refine zV_if_eq d_Mo_sentence_140 (by omega) (fun c140 => ?_) (fun c140 => ?_)
        · refine zV_iconst d_Mo_sentence_147 ?_
          refine zV_istore (L' := [some (2, 80), some (0, p), some (0, q), some (0, k), some (0, f), some (0, a), some (0, o), some (0, 0), none]) d_Mo_sentence_148 (by decide) rfl ?_
          refine zV_bipush d_Mo_sentence_150 ?_
          refine zV_istore (L' := [some (2, 80), some (0, p), some (0, q), some (0, k), some (0, f), some (0, a), some (0, o), some (0, 0), some (0, 7)]) d_Mo_sentence_152 (by decide) rfl ?_
          have ht : 0 = zb (seM mem p q k f) := by first | (rw [se_1 (by omega) (show n = mem 80 15 by omega) i1]; omega) | (rw [se_2 (by omega) (show n = mem 80 15 by omega) i2]; omega)
          rw [← ht]
          refine zV_forget (L' := [some (2, 80), none, none, none, none, none, none, some (0, 0), some (0, 7)]) (by simp [zle]) ?_
          exact s_Mo_sentence_154 mem 0 h20 7 mem (by omega) ⟨fun _ _ => rfl, fun j => by rw [if_neg (by omega)]⟩
        · refine zV_iconst d_Mo_sentence_143 ?_
          refine zV_goto d_Mo_sentence_144 ?_
          refine zV_istore (L' := [some (2, 80), some (0, p), some (0, q), some (0, k), some (0, f), some (0, a), some (0, o), some (0, 1), none]) d_Mo_sentence_148 (by decide) rfl ?_
          refine zV_bipush d_Mo_sentence_150 ?_
          refine zV_istore (L' := [some (2, 80), some (0, p), some (0, q), some (0, k), some (0, f), some (0, a), some (0, o), some (0, 1), some (0, 7)]) d_Mo_sentence_152 (by decide) rfl ?_
          have ht : 1 = zb (seM mem p q k f) := by first | (rw [se_1 (by omega) (show n = mem 80 15 by omega) i1]; omega) | (rw [se_2 (by omega) (show n = mem 80 15 by omega) i2]; omega)
          rw [← ht]
          refine zV_forget (L' := [some (2, 80), none, none, none, none, none, none, some (0, 1), some (0, 7)]) (by simp [zle]) ?_
          exact s_Mo_sentence_154 mem 1 h20 7 mem (by omega) ⟨fun _ _ => rfl, fun j => by rw [if_neg (by omega)]⟩
      · refine zV_iload d_Mo_sentence_130 rfl ?_
        refine zV_if_eq d_Mo_sentence_132 (by omega) (fun c132 => ?_) (fun c132 => ?_)
        · refine zV_iconst d_Mo_sentence_147 ?_
          refine zV_istore (L' := [some (2, 80), some (0, p), some (0, q), some (0, k), some (0, f), some (0, a), some (0, o), some (0, 0), none]) d_Mo_sentence_148 (by decide) rfl ?_
          refine zV_bipush d_Mo_sentence_150 ?_
          refine zV_istore (L' := [some (2, 80), some (0, p), some (0, q), some (0, k), some (0, f), some (0, a), some (0, o), some (0, 0), some (0, 7)]) d_Mo_sentence_152 (by decide) rfl ?_
          have ht : 0 = zb (seM mem p q k f) := by first | (rw [se_1 (by omega) (show n = mem 80 15 by omega) i1]; omega) | (rw [se_2 (by omega) (show n = mem 80 15 by omega) i2]; omega)
          rw [← ht]
          refine zV_forget (L' := [some (2, 80), none, none, none, none, none, none, some (0, 0), some (0, 7)]) (by simp [zle]) ?_
          exact s_Mo_sentence_154 mem 0 h20 7 mem (by omega) ⟨fun _ _ => rfl, fun j => by rw [if_neg (by omega)]⟩
        · refine zV_goto d_Mo_sentence_135 ?_
          refine zV_iconst d_Mo_sentence_143 ?_
          refine zV_goto d_Mo_sentence_144 ?_
          refine zV_istore (L' := [some (2, 80), some (0, p), some (0, q), some (0, k), some (0, f), some (0, a), some (0, o), some (0, 1), none]) d_Mo_sentence_148 (by decide) rfl ?_
          refine zV_bipush d_Mo_sentence_150 ?_
          refine zV_istore (L' := [some (2, 80), some (0, p), some (0, q), some (0, k), some (0, f), some (0, a), some (0, o), some (0, 1), some (0, 7)]) d_Mo_sentence_152 (by decide) rfl ?_
          have ht : 1 = zb (seM mem p q k f) := by first | (rw [se_1 (by omega) (show n = mem 80 15 by omega) i1]; omega) | (rw [se_2 (by omega) (show n = mem 80 15 by omega) i2]; omega)
          rw [← ht]
          refine zV_forget (L' := [some (2, 80), none, none, none, none, none, none, some (0, 1), some (0, 7)]) (by simp [zle]) ?_
          exact s_Mo_sentence_154 mem 1 h20 7 mem (by omega) ⟨fun _ _ => rfl, fun j => by rw [if_neg (by omega)]⟩
    · refine zV_aload_n d_Mo_sentence_73 rfl ?_
      refine zV_iload_n d_Mo_sentence_74 rfl ?_
      refine zV_iload_n d_Mo_sentence_75 rfl ?_
      refine zV_iload d_Mo_sentence_76 rfl ?_
      refine zV_iload d_Mo_sentence_78 rfl ?_
      refine zS_invvE (mt' := m_Mo_holdsIn) (avs := [(0, q), (0, k), (0, f), (0, n)]) (st := []) d_Mo_sentence_80 l_Mo_257 k_Mo_holdsIn rfl rfl rfl rfl rfl (s_Mo_holdsIn mem q k f n hL hq hk hf (by omega)) ?_
      show zS zT m_Mo_sentence (0, 0) 83 [some (2, 80), some (0, p), some (0, q), some (0, k), some (0, f), some (0, a), some (0, o), some (0, n), none] [(0, (zb (hiM mem q k f n)))] mem _
      refine zV_istore (L' := [some (2, 80), some (0, p), some (0, q), some (0, k), some (0, f), some (0, a), some (0, o), some (0, n), some (0, (zb (hiM mem q k f n)))]) d_Mo_sentence_83 (by decide) rfl ?_
      refine zV_iload d_Mo_sentence_85 rfl ?_
      refine zV_if_eq d_Mo_sentence_87 (by omega) (fun c87 => ?_) (fun c87 => ?_)
      · refine zV_iconst d_Mo_sentence_99 ?_
        refine zV_istore (L' := [some (2, 80), some (0, p), some (0, q), some (0, k), some (0, f), some (0, 0), some (0, o), some (0, n), some (0, (zb (hiM mem q k f n)))]) d_Mo_sentence_100 (by decide) rfl ?_
        refine zV_iload d_Mo_sentence_102 rfl ?_
        refine zV_if_ne d_Mo_sentence_104 (by omega) (fun c104 => ?_) (fun c104 => ?_)
        · refine zV_iconst d_Mo_sentence_112 ?_
          refine zV_goto d_Mo_sentence_113 ?_
          refine zV_istore (L' := [some (2, 80), some (0, p), some (0, q), some (0, k), some (0, f), some (0, 0), some (0, 1), some (0, n), some (0, (zb (hiM mem q k f n)))]) d_Mo_sentence_117 (by decide) rfl ?_
          refine zV_iinc (L' := [some (2, 80), some (0, p), some (0, q), some (0, k), some (0, f), some (0, 0), some (0, 1), some (0, (n + 1)), some (0, (zb (hiM mem q k f n)))]) d_Mo_sentence_119 (by decide) rfl rfl ?_
          refine zV_goto d_Mo_sentence_122 ?_
          have hg1 : 0 = zb (∀ i, 0 ≤ i → i < n + 1 → (fun n => hiM mem q k f n) i) := by first | exact fl_a1 i0.1 i1 (by omega) (by assumption) | exact fl_a0 i0.1 i1 (by omega) | exact fl_an i0.1 (by assumption)
          have hg2 : 1 = zb (∃ i, 0 ≤ i ∧ i < n + 1 ∧ (fun n => hiM mem q k f n) i) := by first | exact fl_o1 i0.1 i2 (by omega) | exact fl_op i0.1 (show (fun n => hiM mem q k f n) n by assumption) | exact fl_o0 i0.1 i2 (by omega) (show ¬ (fun n => hiM mem q k f n) n by assumption)
          refine zV_forget (L' := [some (2, 80), some (0, p), some (0, q), some (0, k), some (0, f), some (0, 0), some (0, 1), some (0, (n + 1)), none]) (by simp [zle]) ?_
          exact ih _ (by omega) (n + 1) _ _ rfl (by omega) hg1 hg2
        · refine zV_iload d_Mo_sentence_107 rfl ?_
          refine zV_ifb_eq d_Mo_sentence_109 (fun c109 => ?_) (fun c109 => ?_)
          · refine zV_iconst d_Mo_sentence_116 ?_
            refine zV_istore (L' := [some (2, 80), some (0, p), some (0, q), some (0, k), some (0, f), some (0, 0), some (0, 0), some (0, n), some (0, (zb (hiM mem q k f n)))]) d_Mo_sentence_117 (by decide) rfl ?_
            refine zV_iinc (L' := [some (2, 80), some (0, p), some (0, q), some (0, k), some (0, f), some (0, 0), some (0, 0), some (0, (n + 1)), some (0, (zb (hiM mem q k f n)))]) d_Mo_sentence_119 (by decide) rfl rfl ?_
            refine zV_goto d_Mo_sentence_122 ?_
            have hg1 : 0 = zb (∀ i, 0 ≤ i → i < n + 1 → (fun n => hiM mem q k f n) i) := by first | exact fl_a1 i0.1 i1 (by omega) (by assumption) | exact fl_a0 i0.1 i1 (by omega) | exact fl_an i0.1 (by assumption)
            have hg2 : 0 = zb (∃ i, 0 ≤ i ∧ i < n + 1 ∧ (fun n => hiM mem q k f n) i) := by first | exact fl_o1 i0.1 i2 (by omega) | exact fl_op i0.1 (show (fun n => hiM mem q k f n) n by assumption) | exact fl_o0 i0.1 i2 (by omega) (show ¬ (fun n => hiM mem q k f n) n by assumption)
            refine zV_forget (L' := [some (2, 80), some (0, p), some (0, q), some (0, k), some (0, f), some (0, 0), some (0, 0), some (0, (n + 1)), none]) (by simp [zle]) ?_
            exact ih _ (by omega) (n + 1) _ _ rfl (by omega) hg1 hg2
          · refine zV_iconst d_Mo_sentence_112 ?_
            refine zV_goto d_Mo_sentence_113 ?_
            refine zV_istore (L' := [some (2, 80), some (0, p), some (0, q), some (0, k), some (0, f), some (0, 0), some (0, 1), some (0, n), some (0, (zb (hiM mem q k f n)))]) d_Mo_sentence_117 (by decide) rfl ?_
            refine zV_iinc (L' := [some (2, 80), some (0, p), some (0, q), some (0, k), some (0, f), some (0, 0), some (0, 1), some (0, (n + 1)), some (0, (zb (hiM mem q k f n)))]) d_Mo_sentence_119 (by decide) rfl rfl ?_
            refine zV_goto d_Mo_sentence_122 ?_
            have hg1 : 0 = zb (∀ i, 0 ≤ i → i < n + 1 → (fun n => hiM mem q k f n) i) := by first | exact fl_a1 i0.1 i1 (by omega) (by assumption) | exact fl_a0 i0.1 i1 (by omega) | exact fl_an i0.1 (by assumption)
            have hg2 : 1 = zb (∃ i, 0 ≤ i ∧ i < n + 1 ∧ (fun n => hiM mem q k f n) i) := by first | exact fl_o1 i0.1 i2 (by omega) | exact fl_op i0.1 (show (fun n => hiM mem q k f n) n by assumption) | exact fl_o0 i0.1 i2 (by omega) (show ¬ (fun n => hiM mem q k f n) n by assumption)
            refine zV_forget (L' := [some (2, 80), some (0, p), some (0, q), some (0, k), some (0, f), some (0, 0), some (0, 1), some (0, (n + 1)), none]) (by simp [zle]) ?_
            exact ih _ (by omega) (n + 1) _ _ rfl (by omega) hg1 hg2
      · refine zV_iload d_Mo_sentence_90 rfl ?_
        refine zV_ifb_eq d_Mo_sentence_92 (fun c92 => ?_) (fun c92 => ?_)
        · refine zV_iconst d_Mo_sentence_99 ?_
          refine zV_istore (L' := [some (2, 80), some (0, p), some (0, q), some (0, k), some (0, f), some (0, 0), some (0, o), some (0, n), some (0, (zb (hiM mem q k f n)))]) d_Mo_sentence_100 (by decide) rfl ?_
          refine zV_iload d_Mo_sentence_102 rfl ?_
          refine zV_if_ne d_Mo_sentence_104 (by omega) (fun c104 => ?_) (fun c104 => ?_)
          · refine zV_iconst d_Mo_sentence_112 ?_
            refine zV_goto d_Mo_sentence_113 ?_
            refine zV_istore (L' := [some (2, 80), some (0, p), some (0, q), some (0, k), some (0, f), some (0, 0), some (0, 1), some (0, n), some (0, (zb (hiM mem q k f n)))]) d_Mo_sentence_117 (by decide) rfl ?_
            refine zV_iinc (L' := [some (2, 80), some (0, p), some (0, q), some (0, k), some (0, f), some (0, 0), some (0, 1), some (0, (n + 1)), some (0, (zb (hiM mem q k f n)))]) d_Mo_sentence_119 (by decide) rfl rfl ?_
            refine zV_goto d_Mo_sentence_122 ?_
            have hg1 : 0 = zb (∀ i, 0 ≤ i → i < n + 1 → (fun n => hiM mem q k f n) i) := by first | exact fl_a1 i0.1 i1 (by omega) (by assumption) | exact fl_a0 i0.1 i1 (by omega) | exact fl_an i0.1 (by assumption)
            have hg2 : 1 = zb (∃ i, 0 ≤ i ∧ i < n + 1 ∧ (fun n => hiM mem q k f n) i) := by first | exact fl_o1 i0.1 i2 (by omega) | exact fl_op i0.1 (show (fun n => hiM mem q k f n) n by assumption) | exact fl_o0 i0.1 i2 (by omega) (show ¬ (fun n => hiM mem q k f n) n by assumption)
            refine zV_forget (L' := [some (2, 80), some (0, p), some (0, q), some (0, k), some (0, f), some (0, 0), some (0, 1), some (0, (n + 1)), none]) (by simp [zle]) ?_
            exact ih _ (by omega) (n + 1) _ _ rfl (by omega) hg1 hg2
          · refine zV_iload d_Mo_sentence_107 rfl ?_
            refine zV_ifb_eq d_Mo_sentence_109 (fun c109 => ?_) (fun c109 => ?_)
            · refine zV_iconst d_Mo_sentence_116 ?_
              refine zV_istore (L' := [some (2, 80), some (0, p), some (0, q), some (0, k), some (0, f), some (0, 0), some (0, 0), some (0, n), some (0, (zb (hiM mem q k f n)))]) d_Mo_sentence_117 (by decide) rfl ?_
              refine zV_iinc (L' := [some (2, 80), some (0, p), some (0, q), some (0, k), some (0, f), some (0, 0), some (0, 0), some (0, (n + 1)), some (0, (zb (hiM mem q k f n)))]) d_Mo_sentence_119 (by decide) rfl rfl ?_
              refine zV_goto d_Mo_sentence_122 ?_
              have hg1 : 0 = zb (∀ i, 0 ≤ i → i < n + 1 → (fun n => hiM mem q k f n) i) := by first | exact fl_a1 i0.1 i1 (by omega) (by assumption) | exact fl_a0 i0.1 i1 (by omega) | exact fl_an i0.1 (by assumption)
              have hg2 : 0 = zb (∃ i, 0 ≤ i ∧ i < n + 1 ∧ (fun n => hiM mem q k f n) i) := by first | exact fl_o1 i0.1 i2 (by omega) | exact fl_op i0.1 (show (fun n => hiM mem q k f n) n by assumption) | exact fl_o0 i0.1 i2 (by omega) (show ¬ (fun n => hiM mem q k f n) n by assumption)
              refine zV_forget (L' := [some (2, 80), some (0, p), some (0, q), some (0, k), some (0, f), some (0, 0), some (0, 0), some (0, (n + 1)), none]) (by simp [zle]) ?_
              exact ih _ (by omega) (n + 1) _ _ rfl (by omega) hg1 hg2
            · refine zV_iconst d_Mo_sentence_112 ?_
              refine zV_goto d_Mo_sentence_113 ?_
              refine zV_istore (L' := [some (2, 80), some (0, p), some (0, q), some (0, k), some (0, f), some (0, 0), some (0, 1), some (0, n), some (0, (zb (hiM mem q k f n)))]) d_Mo_sentence_117 (by decide) rfl ?_
              refine zV_iinc (L' := [some (2, 80), some (0, p), some (0, q), some (0, k), some (0, f), some (0, 0), some (0, 1), some (0, (n + 1)), some (0, (zb (hiM mem q k f n)))]) d_Mo_sentence_119 (by decide) rfl rfl ?_
              refine zV_goto d_Mo_sentence_122 ?_
              have hg1 : 0 = zb (∀ i, 0 ≤ i → i < n + 1 → (fun n => hiM mem q k f n) i) := by first | exact fl_a1 i0.1 i1 (by omega) (by assumption) | exact fl_a0 i0.1 i1 (by omega) | exact fl_an i0.1 (by assumption)
              have hg2 : 1 = zb (∃ i, 0 ≤ i ∧ i < n + 1 ∧ (fun n => hiM mem q k f n) i) := by first | exact fl_o1 i0.1 i2 (by omega) | exact fl_op i0.1 (show (fun n => hiM mem q k f n) n by assumption) | exact fl_o0 i0.1 i2 (by omega) (show ¬ (fun n => hiM mem q k f n) n by assumption)
              refine zV_forget (L' := [some (2, 80), some (0, p), some (0, q), some (0, k), some (0, f), some (0, 0), some (0, 1), some (0, (n + 1)), none]) (by simp [zle]) ?_
              exact ih _ (by omega) (n + 1) _ _ rfl (by omega) hg1 hg2
        · refine zV_iconst d_Mo_sentence_95 ?_
          refine zV_goto d_Mo_sentence_96 ?_
          refine zV_istore (L' := [some (2, 80), some (0, p), some (0, q), some (0, k), some (0, f), some (0, 1), some (0, o), some (0, n), some (0, (zb (hiM mem q k f n)))]) d_Mo_sentence_100 (by decide) rfl ?_
          refine zV_iload d_Mo_sentence_102 rfl ?_
          refine zV_if_ne d_Mo_sentence_104 (by omega) (fun c104 => ?_) (fun c104 => ?_)
          · refine zV_iconst d_Mo_sentence_112 ?_
            refine zV_goto d_Mo_sentence_113 ?_
            refine zV_istore (L' := [some (2, 80), some (0, p), some (0, q), some (0, k), some (0, f), some (0, 1), some (0, 1), some (0, n), some (0, (zb (hiM mem q k f n)))]) d_Mo_sentence_117 (by decide) rfl ?_
            refine zV_iinc (L' := [some (2, 80), some (0, p), some (0, q), some (0, k), some (0, f), some (0, 1), some (0, 1), some (0, (n + 1)), some (0, (zb (hiM mem q k f n)))]) d_Mo_sentence_119 (by decide) rfl rfl ?_
            refine zV_goto d_Mo_sentence_122 ?_
            have hg1 : 1 = zb (∀ i, 0 ≤ i → i < n + 1 → (fun n => hiM mem q k f n) i) := by first | exact fl_a1 i0.1 i1 (by omega) (by assumption) | exact fl_a0 i0.1 i1 (by omega) | exact fl_an i0.1 (by assumption)
            have hg2 : 1 = zb (∃ i, 0 ≤ i ∧ i < n + 1 ∧ (fun n => hiM mem q k f n) i) := by first | exact fl_o1 i0.1 i2 (by omega) | exact fl_op i0.1 (show (fun n => hiM mem q k f n) n by assumption) | exact fl_o0 i0.1 i2 (by omega) (show ¬ (fun n => hiM mem q k f n) n by assumption)
            refine zV_forget (L' := [some (2, 80), some (0, p), some (0, q), some (0, k), some (0, f), some (0, 1), some (0, 1), some (0, (n + 1)), none]) (by simp [zle]) ?_
            exact ih _ (by omega) (n + 1) _ _ rfl (by omega) hg1 hg2
          · refine zV_iload d_Mo_sentence_107 rfl ?_
            refine zV_ifb_eq d_Mo_sentence_109 (fun c109 => ?_) (fun c109 => ?_)
            · refine zV_iconst d_Mo_sentence_116 ?_
              refine zV_istore (L' := [some (2, 80), some (0, p), some (0, q), some (0, k), some (0, f), some (0, 1), some (0, 0), some (0, n), some (0, (zb (hiM mem q k f n)))]) d_Mo_sentence_117 (by decide) rfl ?_
              refine zV_iinc (L' := [some (2, 80), some (0, p), some (0, q), some (0, k), some (0, f), some (0, 1), some (0, 0), some (0, (n + 1)), some (0, (zb (hiM mem q k f n)))]) d_Mo_sentence_119 (by decide) rfl rfl ?_
              refine zV_goto d_Mo_sentence_122 ?_
              have hg1 : 1 = zb (∀ i, 0 ≤ i → i < n + 1 → (fun n => hiM mem q k f n) i) := by first | exact fl_a1 i0.1 i1 (by omega) (by assumption) | exact fl_a0 i0.1 i1 (by omega) | exact fl_an i0.1 (by assumption)
              have hg2 : 0 = zb (∃ i, 0 ≤ i ∧ i < n + 1 ∧ (fun n => hiM mem q k f n) i) := by first | exact fl_o1 i0.1 i2 (by omega) | exact fl_op i0.1 (show (fun n => hiM mem q k f n) n by assumption) | exact fl_o0 i0.1 i2 (by omega) (show ¬ (fun n => hiM mem q k f n) n by assumption)
              refine zV_forget (L' := [some (2, 80), some (0, p), some (0, q), some (0, k), some (0, f), some (0, 1), some (0, 0), some (0, (n + 1)), none]) (by simp [zle]) ?_
              exact ih _ (by omega) (n + 1) _ _ rfl (by omega) hg1 hg2
            · refine zV_iconst d_Mo_sentence_112 ?_
              refine zV_goto d_Mo_sentence_113 ?_
              refine zV_istore (L' := [some (2, 80), some (0, p), some (0, q), some (0, k), some (0, f), some (0, 1), some (0, 1), some (0, n), some (0, (zb (hiM mem q k f n)))]) d_Mo_sentence_117 (by decide) rfl ?_
              refine zV_iinc (L' := [some (2, 80), some (0, p), some (0, q), some (0, k), some (0, f), some (0, 1), some (0, 1), some (0, (n + 1)), some (0, (zb (hiM mem q k f n)))]) d_Mo_sentence_119 (by decide) rfl rfl ?_
              refine zV_goto d_Mo_sentence_122 ?_
              have hg1 : 1 = zb (∀ i, 0 ≤ i → i < n + 1 → (fun n => hiM mem q k f n) i) := by first | exact fl_a1 i0.1 i1 (by omega) (by assumption) | exact fl_a0 i0.1 i1 (by omega) | exact fl_an i0.1 (by assumption)
              have hg2 : 1 = zb (∃ i, 0 ≤ i ∧ i < n + 1 ∧ (fun n => hiM mem q k f n) i) := by first | exact fl_o1 i0.1 i2 (by omega) | exact fl_op i0.1 (show (fun n => hiM mem q k f n) n by assumption) | exact fl_o0 i0.1 i2 (by omega) (show ¬ (fun n => hiM mem q k f n) n by assumption)
              refine zV_forget (L' := [some (2, 80), some (0, p), some (0, q), some (0, k), some (0, f), some (0, 1), some (0, 1), some (0, (n + 1)), none]) (by simp [zle]) ?_
              exact ih _ (by omega) (n + 1) _ _ rfl (by omega) hg1 hg2
theorem s_Mo_sentence (mem : zMem) (p q k f : Int) (hp : I32 p) (hq : I32 q) (hk : I32 k) (hf : I32 f) (hK : moK mem) (hO : FRS mem) (h20 : 0 ≤ mem 80 20 ∧ mem 80 20 ≤ 8) : zF m_Mo_sentence [(2, 80), (0, p), (0, q), (0, k), (0, f)] mem (fun r m => (¬ ((0 ≤ p ∧ p ≤ 1) ∧ (0 ≤ q ∧ q ≤ 1) ∧ (0 ≤ k ∧ k ≤ 1) ∧ okF f) ∧ r = some (0, -102) ∧ m = mem) ∨ (((0 ≤ p ∧ p ≤ 1) ∧ (0 ≤ q ∧ q ≤ 1) ∧ (0 ≤ k ∧ k ≤ 1) ∧ okF f) ∧ mem 80 2 = 0 ∧ r = some (0, -103) ∧ m = mem) ∨ (((0 ≤ p ∧ p ≤ 1) ∧ (0 ≤ q ∧ q ≤ 1) ∧ (0 ≤ k ∧ k ≤ 1) ∧ okF f) ∧ mem 80 2 ≠ 0 ∧ ∃ m1, FRm mem m1 ∧ r = some (0, zb (seM m1 p q k f)) ∧ rgM m1 (zb (seM m1 p q k f)) m)) := by
  have k1 := hK.1
  refine zF_of (by decide) (Nat.le_of_ble_eq_true rfl) ?_
  show zS zT m_Mo_sentence (0, 0) 0 [some (2, 80), some (0, p), some (0, q), some (0, k), some (0, f), none, none, none, none] [] mem _
  refine zV_iload_n d_Mo_sentence_0 rfl ?_
  refine zV_i2l d_Mo_sentence_1 (by omega) ?_
  refine zV_lconst0 d_Mo_sentence_2 ?_
  refine zV_lconst1 d_Mo_sentence_3 ?_
  refine zS_invsE (mt' := m_Mo_in) (avs := [(1, p), (1, 0), (1, 1)]) (st := []) d_Mo_sentence_4 l_Mo_80 k_Mo_in rfl rfl rfl rfl (s_Mo_in mem p 0 1 (by omega) (by omega) (by omega)) ?_
  show zS zT m_Mo_sentence (0, 0) 7 [some (2, 80), some (0, p), some (0, q), some (0, k), some (0, f), none, none, none, none] [(0, (zb (0 ≤ p ∧ p ≤ 1)))] mem _
  refine zV_ifb_eq d_Mo_sentence_7 (fun c7 => ?_) (fun c7 => ?_)
  · refine zV_bipush d_Mo_sentence_38 ?_
    exact zS_iret d_Mo_sentence_40 rfl ⟨Nat.zero_le _, Nat.zero_le _⟩ (Or.inl ⟨fun z => by first | exact absurd z.1 (by assumption) | exact absurd z.2.1 (by assumption) | exact absurd z.2.2.1 (by assumption) | exact absurd z.2.2.2 (by assumption), rfl, rfl⟩)
  · refine zV_iload_n d_Mo_sentence_10 rfl ?_
    refine zV_i2l d_Mo_sentence_11 (by omega) ?_
    refine zV_lconst0 d_Mo_sentence_12 ?_
    refine zV_lconst1 d_Mo_sentence_13 ?_
    refine zS_invsE (mt' := m_Mo_in) (avs := [(1, q), (1, 0), (1, 1)]) (st := []) d_Mo_sentence_14 l_Mo_80 k_Mo_in rfl rfl rfl rfl (s_Mo_in mem q 0 1 (by omega) (by omega) (by omega)) ?_
    show zS zT m_Mo_sentence (0, 0) 17 [some (2, 80), some (0, p), some (0, q), some (0, k), some (0, f), none, none, none, none] [(0, (zb (0 ≤ q ∧ q ≤ 1)))] mem _
    refine zV_ifb_eq d_Mo_sentence_17 (fun c17 => ?_) (fun c17 => ?_)
    · refine zV_bipush d_Mo_sentence_38 ?_
      exact zS_iret d_Mo_sentence_40 rfl ⟨Nat.zero_le _, Nat.zero_le _⟩ (Or.inl ⟨fun z => by first | exact absurd z.1 (by assumption) | exact absurd z.2.1 (by assumption) | exact absurd z.2.2.1 (by assumption) | exact absurd z.2.2.2 (by assumption), rfl, rfl⟩)
    · refine zV_iload_n d_Mo_sentence_20 rfl ?_
      refine zV_i2l d_Mo_sentence_21 (by omega) ?_
      refine zV_lconst0 d_Mo_sentence_22 ?_
      refine zV_lconst1 d_Mo_sentence_23 ?_
      refine zS_invsE (mt' := m_Mo_in) (avs := [(1, k), (1, 0), (1, 1)]) (st := []) d_Mo_sentence_24 l_Mo_80 k_Mo_in rfl rfl rfl rfl (s_Mo_in mem k 0 1 (by omega) (by omega) (by omega)) ?_
      show zS zT m_Mo_sentence (0, 0) 27 [some (2, 80), some (0, p), some (0, q), some (0, k), some (0, f), none, none, none, none] [(0, (zb (0 ≤ k ∧ k ≤ 1)))] mem _
      refine zV_ifb_eq d_Mo_sentence_27 (fun c27 => ?_) (fun c27 => ?_)
      · refine zV_bipush d_Mo_sentence_38 ?_
        exact zS_iret d_Mo_sentence_40 rfl ⟨Nat.zero_le _, Nat.zero_le _⟩ (Or.inl ⟨fun z => by first | exact absurd z.1 (by assumption) | exact absurd z.2.1 (by assumption) | exact absurd z.2.2.1 (by assumption) | exact absurd z.2.2.2 (by assumption), rfl, rfl⟩)
      · refine zV_iload d_Mo_sentence_30 rfl ?_
        refine zS_invsE (mt' := m_Mo_isForm) (avs := [(0, f)]) (st := []) d_Mo_sentence_32 l_Mo_254 k_Mo_isForm rfl rfl rfl rfl (s_Mo_isForm mem f (by omega)) ?_
        show zS zT m_Mo_sentence (0, 0) 35 [some (2, 80), some (0, p), some (0, q), some (0, k), some (0, f), none, none, none, none] [(0, (zb (okF f)))] mem _
        refine zV_ifb_ne d_Mo_sentence_35 (fun c35 => ?_) (fun c35 => ?_)
        · refine zV_aload_n d_Mo_sentence_41 rfl ?_
          refine zS_invvE (mt' := m_Mo_lacks) (avs := []) (st := []) d_Mo_sentence_42 l_Mo_213 k_Mo_lacks rfl rfl rfl rfl rfl (s_Mo_lacks mem (by omega)) ?_
          show zS zT m_Mo_sentence (0, 0) 45 [some (2, 80), some (0, p), some (0, q), some (0, k), some (0, f), none, none, none, none] [(0, (zb (mem 80 2 = 0)))] mem _
          refine zV_ifb_eq d_Mo_sentence_45 (fun c45 => ?_) (fun c45 => ?_)
          · refine zV_aload_n d_Mo_sentence_51 rfl ?_
            refine zS_invv (mt' := m_Mo_freshen) (avs := []) (st := []) d_Mo_sentence_52 l_Mo_217 k_Mo_freshen rfl rfl rfl rfl rfl (s_Mo_freshen mem hK (FRS_T hO (by assumption))) (fun r9 m1 hq9 => ?_)
            obtain ⟨rfl, hR⟩ := hq9
            show zS zT m_Mo_sentence (0, 0) 55 [some (2, 80), some (0, p), some (0, q), some (0, k), some (0, f), none, none, none, none] [] m1 _
            refine zV_iconst d_Mo_sentence_55 ?_
            refine zV_istore (L' := [some (2, 80), some (0, p), some (0, q), some (0, k), some (0, f), some (0, 1), none, none, none]) d_Mo_sentence_56 (by decide) rfl ?_
            refine zV_iconst d_Mo_sentence_58 ?_
            refine zV_istore (L' := [some (2, 80), some (0, p), some (0, q), some (0, k), some (0, f), some (0, 1), some (0, 0), none, none]) d_Mo_sentence_59 (by decide) rfl ?_
            refine zV_iconst d_Mo_sentence_61 ?_
            refine zV_istore (L' := [some (2, 80), some (0, p), some (0, q), some (0, k), some (0, f), some (0, 1), some (0, 0), some (0, 0), none]) d_Mo_sentence_62 (by decide) rfl ?_
            have hL1 := ML_ok (FRm_K hR hK) hR.1
            have e20 : m1 80 20 = mem 80 20 := hR.2.1.2 20 (by decide) (by decide) (by decide)
            refine zS_mono ?_ (s_Mo_sentence_64 m1 p q k f hL1 hp hq hk (by have := okF_r (f := f) (by assumption); omega) (by omega) 0 1 0 ⟨by omega, hL1.2.2.1.1.1⟩ ?_ ?_)
            · rintro r m ⟨rfl, h9⟩
              exact Or.inr (Or.inr ⟨⟨by assumption, by assumption, by assumption, by assumption⟩, by assumption, m1, hR, rfl, h9⟩)
            · rw [zb_t (fun i a b => by omega)]
            · rw [zb_f (fun z => by obtain ⟨i, a, b, _⟩ := z; omega)]
          · refine zV_bipush d_Mo_sentence_48 ?_
            exact zS_iret d_Mo_sentence_50 rfl ⟨Nat.zero_le _, Nat.zero_le _⟩ (Or.inr (Or.inl ⟨⟨by assumption, by assumption, by assumption, by assumption⟩, by assumption, rfl, rfl⟩))
        · refine zV_bipush d_Mo_sentence_38 ?_
          exact zS_iret d_Mo_sentence_40 rfl ⟨Nat.zero_le _, Nat.zero_le _⟩ (Or.inl ⟨fun z => by first | exact absurd z.1 (by assumption) | exact absurd z.2.1 (by assumption) | exact absurd z.2.2.1 (by assumption) | exact absurd z.2.2.2 (by assumption), rfl, rfl⟩)
