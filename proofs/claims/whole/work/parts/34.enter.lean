/-! stacks, built: a point is entered in its place -/
abbrev PtS : Type := Int × (Int → Pt)
noncomputable def enQ (s : PtS) (x : Pt) : Int := zff (fun p => 0 ≤ ordP (s.2 p) x) (s.1 - 0).toNat 0
noncomputable def entP (s : PtS) (x : Pt) : PtS := cif (12 ≤ s.1 ∨ (enQ s x < s.1 ∧ ordP (s.2 (enQ s x)) x = 0)) s (s.1 + 1, fun p => if p < enQ s x then s.2 p else if p = enQ s x then x else s.2 (p - 1))
def PS (mem : zMem) (t : Int) (s : PtS) : Prop := RT mem t ∧ mem t 1 = s.1 ∧ (0 ≤ s.1 ∧ s.1 ≤ 12) ∧ ∀ p, 0 ≤ p → p < s.1 → okP (s.2 p) ∧ rP mem (mem (t + 1) p) = s.2 p
def frE (t : Int) (mem m : zMem) : Prop := (∀ x, x ≠ t → x ≠ t + 1 → ¬ isRo t x → m x = mem x) ∧ ∀ k, k ≠ 1 → m t k = mem t k
theorem frE_r (t : Int) (mem : zMem) : frE t mem mem := ⟨fun _ _ _ _ => rfl, fun _ _ => rfl⟩
theorem frE_t {t : Int} {a b c : zMem} (h : frE t a b) (h' : frE t b c) : frE t a c := ⟨fun x q1 q2 q3 => (h'.1 x q1 q2 q3).trans (h.1 x q1 q2 q3), fun k q => (h'.2 k q).trans (h.2 k q)⟩
def shW (t : Int) (m1 : zMem) (n to : Int) (m : zMem) : Prop := (∀ x, x ≠ t + 1 → m x = m1 x) ∧ ∀ p, m (t + 1) p = if to < p ∧ p ≤ n then m1 (t + 1) (p - 1) else m1 (t + 1) p
theorem shW_0 (t : Int) (m1 : zMem) (n : Int) : shW t m1 n n m1 := ⟨fun _ _ => rfl, fun p => by rw [if_neg (by omega)]⟩
theorem shW_s {t : Int} {m1 m : zMem} {n to v : Int} (h : shW t m1 n to m) (hn : to ≤ n) (hv : v = m (t + 1) (to - 1)) : shW t m1 n (to - 1) (zup m (t + 1) to v) := by
  refine ⟨fun x hx => by rw [zup_a hx]; exact h.1 x hx, fun p => ?_⟩
  rw [zup_f]
  by_cases e : p = to
  · subst e
    rw [uf_s, hv, h.2, if_neg (by omega), if_pos (by omega)]
  · rw [uf_n e, h.2]
    by_cases e2 : to < p ∧ p ≤ n
    · rw [if_pos e2, if_pos (by omega)]
    · rw [if_neg e2, if_neg (by omega)]
theorem shW_ro {t : Int} {m1 m : zMem} {n to : Int} (h : shW t m1 n to m) (hR : RT m1 t) (h0 : 0 ≤ to) (p : Int) (q1 : 0 ≤ p) (q2 : p < 12) : isRo t (m (t + 1) p) := by
  rw [h.2]
  split
  · exact hR.1 _ (by omega) (by omega)
  · exact hR.1 _ q1 q2
/-- after the shift, f in its place, one more: the points with x among them -/
theorem en_fin {t : Int} {m1 m : zMem} {s : PtS} {x : Pt} {a f : Int} (h : shW t m1 s.1 a m) (hR : RT m1 t) (hn : 0 ≤ s.1 ∧ s.1 < 12) (ha : 0 ≤ a ∧ a ≤ s.1) (hq : enQ s x = a) (hno : ¬ (a < s.1 ∧ ordP (s.2 a) x = 0)) (hf : f = m1 (t + 1) s.1) (hx : rP m1 f = x) (ox : okP x) (hp : ∀ p, 0 ≤ p → p < s.1 → okP (s.2 p) ∧ rP m1 (m1 (t + 1) p) = s.2 p) : PS (zup (zup m (t + 1) a f) t 1 (s.1 + 1)) t (entP s x) := by
  have hE : entP s x = (s.1 + 1, fun p => if p < a then s.2 p else if p = a then x else s.2 (p - 1)) := by
    unfold entP
    rw [hq, cif_f (by omega)]
  have hM : ∀ p, zup (zup m (t + 1) a f) t 1 (s.1 + 1) (t + 1) p = if p = a then m1 (t + 1) s.1 else if a < p ∧ p ≤ s.1 then m1 (t + 1) (p - 1) else m1 (t + 1) p := fun p => by
    rw [zup_a (by omega), zup_f]
    by_cases e : p = a
    · rw [e, uf_s, if_pos rfl, hf]
    · rw [uf_n e, if_neg e, h.2]
  have hro : ∀ p, 0 ≤ p → p < 12 → isRo t (zup (zup m (t + 1) a f) t 1 (s.1 + 1) (t + 1) p) := fun p q1 q2 => by
    rw [hM]
    split
    · exact hR.1 _ hn.1 hn.2
    · split
      · exact hR.1 _ (by omega) (by omega)
      · exact hR.1 _ q1 q2
  have hrp : ∀ y, isRo t y → rP (zup (zup m (t + 1) a f) t 1 (s.1 + 1)) y = rP m1 y := fun y hy => by
    have h9 : t + 9 ≤ y ∧ y < t + 21 := hy
    unfold rP
    rw [zup_a (by omega), zup_a (by omega), h.1 y (by omega)]
  rw [hE]
  refine ⟨⟨hro, fun p q q1 q2 q3 => ?_⟩, ?_, ⟨?_, ?_⟩, fun p q1 q2 => ?_⟩
  · rw [hM, hM]
    have hd := hR.2
    have hd2 : ∀ p q, 0 ≤ p → p < 12 → 0 ≤ q → q < 12 → p ≠ q → m1 (t + 1) p ≠ m1 (t + 1) q := fun p q a1 a2 a3 a4 a5 => by
      rcases Int.lt_or_gt_of_ne a5 with z | z
      · exact hd p q a1 z a4
      · exact fun e => hd q p a3 z a2 e.symm
    (repeat' split) <;> first | (exfalso; omega) | exact hd2 _ _ (by omega) (by omega) (by omega) (by omega) (by omega)
  · rw [zup_s]
  · show 0 ≤ s.1 + 1; omega
  · show s.1 + 1 ≤ 12; omega
  · have q2 : p < s.1 + 1 := q2
    rw [hrp _ (hro p q1 (by omega)), hM]
    show okP (if p < a then s.2 p else if p = a then x else s.2 (p - 1)) ∧ _ = if p < a then s.2 p else if p = a then x else s.2 (p - 1)
    by_cases e1 : p < a
    · rw [if_pos e1, if_neg (by omega), if_neg (by omega)]
      exact hp p q1 (by omega)
    · rw [if_neg e1]
      by_cases e2 : p = a
      · rw [if_pos e2, if_pos e2, ← hf]
        exact ⟨ox, hx⟩
      · rw [if_neg e2, if_neg e2, if_pos (by omega)]
        exact hp (p - 1) (by omega) (by omega)
theorem en_fr {t : Int} {m1 m : zMem} {n a to f v : Int} (h : shW t m1 n to m) : frE t m1 (zup (zup m (t + 1) a f) t 1 v) := by
  refine ⟨fun x q1 q2 q3 => by rw [zup_a q1, zup_a q2]; exact h.1 x q2, fun k q => ?_⟩
  rw [zup_f, uf_n q, zup_a (by omega), h.1 t (by omega)]
theorem en_no {t : Int} {m1 : zMem} {s : PtS} {x : Pt} {a : Int} (hR : RT m1 t) (hn : 0 ≤ s.1 ∧ s.1 < 12) (h1 : m1 t 1 = s.1) (hp : ∀ p, 0 ≤ p → p < s.1 → okP (s.2 p) ∧ rP m1 (m1 (t + 1) p) = s.2 p) (hq : enQ s x = a) (ha : a < s.1) (h0 : ordP (s.2 a) x = 0) : PS m1 t (entP s x) := by
  have hE : entP s x = s := by
    unfold entP
    rw [hq, cif_t (Or.inr ⟨ha, h0⟩)]
  rw [hE]
  exact ⟨hR, h1, ⟨hn.1, by omega⟩, hp⟩
theorem s_St_enter_91 (m0 m1 : zMem) (t : Int) (h : isSt t) (hfm : frE t m0 m1) (s : PtS) (x : Pt) (f : Int) (hR : RT m1 t) (hn : 0 ≤ s.1 ∧ s.1 < 12) (h1 : m1 t 1 = s.1) (hf : f = m1 (t + 1) s.1) (hf6 : zkd zSH f = (6, 0)) (hx : rP m1 f = x) (ox : okP x) (hp : ∀ p, 0 ≤ p → p < s.1 → okP (s.2 p) ∧ rP m1 (m1 (t + 1) p) = s.2 p) (a : Int) (ha : 0 ≤ a ∧ a ≤ s.1) (hq : enQ s x = a) (hno : ¬ (a < s.1 ∧ ordP (s.2 a) x = 0)) : ∀ (to : Int) (m : zMem), (a ≤ to ∧ to ≤ s.1) → (shW t m1 s.1 to m) → zS zT m_St_enter (0, 0) 91 [some (2, t), none, none, none, none, none, none, none, none, some (2, f), some (0, a), some (0, to)] [] m (zQs (fun r m => r = none ∧ PS m t (entP s x) ∧ frE t m0 m)) := by
  intro to m
  obtain ⟨k9, hk9⟩ : ∃ kq : Nat, (to - a).toNat = kq := ⟨_, rfl⟩
  induction k9 using Nat.strongRecOn generalizing to m with
  | _ k9 ih =>
    intro i0 i1
    have hro := shW_ro i1 hR (by omega)
    have e1 : m t 1 = s.1 := by rw [i1.1 t (by omega)]; exact h1
    refine zV_iload d_St_enter_91 rfl ?_
    refine zV_iload d_St_enter_93 rfl ?_
    refine zV_icmp_le d_St_enter_95 (by omega) (by omega) (fun c95 => ?_) (fun c95 => ?_)
    · refine zV_aload_n d_St_enter_120 rfl ?_
      refine zS_getr (r := (t + 1)) d_St_enter_121 f_St_11 (kSt0 h) rfl rfl ?_
      refine zV_iload d_St_enter_124 rfl ?_
      refine zV_aload d_St_enter_126 rfl ?_
      refine zS_aast d_St_enter_128 (kSt1 h) rfl ⟨by omega, by omega⟩ hf6 ?_
      refine zV_aload_n d_St_enter_129 rfl ?_
      refine zV_dup d_St_enter_130 (show (2 : Nat) ≠ 1 by decide) ?_
      refine zS_get d_St_enter_131 f_St_17 (kSt0 h) rfl ?_
      rw [show (zup m (t + 1) a f) t 1 = (m t 1) from zup_c (by omega)]
      refine zV_iconst d_St_enter_134 ?_
      refine zV_iadd d_St_enter_135 ?_
      refine zS_puti d_St_enter_136 f_St_17 (kSt0 h) ⟨rfl, rfl⟩ rfl ?_
      exact zS_vret d_St_enter_139 rfl ⟨Nat.zero_le _, Nat.zero_le _⟩ ⟨rfl, by rw [e1]; exact en_fin (by rw [show a = to by omega]; exact i1) hR hn ha hq hno hf hx ox hp, frE_t hfm (en_fr i1)⟩
    · refine zV_aload_n d_St_enter_98 rfl ?_
      refine zS_getr (r := (t + 1)) d_St_enter_99 f_St_11 (kSt0 h) rfl rfl ?_
      refine zV_iload d_St_enter_102 rfl ?_
      refine zV_aload_n d_St_enter_104 rfl ?_
      refine zS_getr (r := (t + 1)) d_St_enter_105 f_St_11 (kSt0 h) rfl rfl ?_
      refine zV_iload d_St_enter_108 rfl ?_
      refine zV_iconst d_St_enter_110 ?_
      refine zV_isub d_St_enter_111 ?_
      refine zS_ald16 d_St_enter_112 (kSt1 h) rfl ⟨by omega, by omega⟩ ?_
      refine zS_aast d_St_enter_113 (kSt1 h) rfl ⟨by omega, by omega⟩ (kRoc h (hro (to - 1) (by omega) (by omega))) ?_
      refine zV_iinc (L' := [some (2, t), none, none, none, none, none, none, none, none, some (2, f), some (0, a), some (0, (to + (-1)))]) d_St_enter_114 (by decide) rfl rfl ?_
      refine zV_goto d_St_enter_117 ?_
      exact ih _ (by omega) (to - 1) _ rfl (by omega) (shW_s i1 (by omega) rfl)
theorem s_St_enter_42 (m0 m1 : zMem) (t : Int) (h : isSt t) (hfm : frE t m0 m1) (s : PtS) (x : Pt) (f : Int) (hR : RT m1 t) (hn : 0 ≤ s.1 ∧ s.1 < 12) (h1 : m1 t 1 = s.1) (hf : f = m1 (t + 1) s.1) (hf6 : zkd zSH f = (6, 0)) (hx : rP m1 f = x) (ox : okP x) (hp : ∀ p, 0 ≤ p → p < s.1 → okP (s.2 p) ∧ rP m1 (m1 (t + 1) p) = s.2 p) : ∀ (a : Int), (0 ≤ a ∧ a ≤ s.1) → (zff (fun p => 0 ≤ ordP (s.2 p) x) (s.1 - a).toNat a = enQ s x) → zS zT m_St_enter (0, 0) 42 [some (2, t), none, none, none, none, none, none, none, none, some (2, f), some (0, a), none] [] m1 (zQs (fun r m => r = none ∧ PS m t (entP s x) ∧ frE t m0 m)) := by
  intro a
  obtain ⟨k9, hk9⟩ : ∃ kq : Nat, (s.1 - a).toNat = kq := ⟨_, rfl⟩
  induction k9 using Nat.strongRecOn generalizing a with
  | _ k9 ih =>
    intro i0 i1
    have hro := hR.1
    refine zV_iload d_St_enter_42 rfl ?_
    refine zV_aload_n d_St_enter_44 rfl ?_
    refine zS_get d_St_enter_45 f_St_17 (kSt0 h) rfl ?_
    refine zV_icmp_ge d_St_enter_48 (by omega) (by omega) (fun c48 => ?_) (fun c48 => ?_)
    · refine zV_aload_n d_St_enter_85 rfl ?_
      refine zS_get d_St_enter_86 f_St_17 (kSt0 h) rfl ?_
      refine zV_istore (L' := [some (2, t), none, none, none, none, none, none, none, none, some (2, f), some (0, a), some (0, (m1 t 1))]) d_St_enter_89 (by decide) rfl ?_
      have hq : enQ s x = a := by
        by_cases e9 : a < s.1
        · rw [← i1, zff_t (p := (fun p => 0 ≤ ordP (s.2 p) x)) (n := s.1) (i := a) e9]
          show 0 ≤ ordP (s.2 a) x
          have eo : ordP (s.2 a) x = ordP (rP m1 (m1 (t + 1) a)) (rP m1 f) := by rw [hx, (hp a (by omega) (by omega)).2]
          omega
        · rw [← i1, zff_e (n := s.1) (by omega)]
      refine s_St_enter_91 m0 m1 t h hfm s x f hR hn h1 hf hf6 hx ox hp a i0 hq (fun z => ?_) _ _ ⟨by omega, by omega⟩ (h1 ▸ shW_0 t m1 _)
      have eo : ordP (s.2 a) x = ordP (rP m1 (m1 (t + 1) a)) (rP m1 f) := by rw [hx, (hp a (by omega) (by omega)).2]
      omega
    · refine zV_aload_n d_St_enter_51 rfl ?_
      refine zS_getr (r := (t + 1)) d_St_enter_52 f_St_11 (kSt0 h) rfl rfl ?_
      refine zV_iload d_St_enter_55 rfl ?_
      refine zS_ald16 d_St_enter_57 (kSt1 h) rfl ⟨by omega, by omega⟩ ?_
      refine zV_aload d_St_enter_58 rfl ?_
      refine zS_invvE (mt' := m_Ro_orderTo) (avs := [(2, f)]) (st := []) d_St_enter_60 l_St_121 k_Ro_orderTo (kRoc h (hro a (by omega) (by omega))) rfl rfl rfl rfl (s_Ro_orderTo m1 (m1 (t + 1) a) f (kRoc h (hro a (by omega) (by omega))) hf6 (by rw [(hp a (by omega) (by omega)).2]; exact (hp a (by omega) (by omega)).1) (by rw [hx]; exact ox)) ?_
      show zS zT m_St_enter (0, 0) 63 [some (2, t), none, none, none, none, none, none, none, none, some (2, f), some (0, a), none] [(0, (ordP (rP m1 (m1 (t + 1) a)) (rP m1 f)))] m1 _
      refine zV_istore (L' := [some (2, t), none, none, none, none, none, none, none, none, some (2, f), some (0, a), some (0, (ordP (rP m1 (m1 (t + 1) a)) (rP m1 f)))]) d_St_enter_63 (by decide) rfl ?_
      refine zV_iload d_St_enter_65 rfl ?_
      refine zV_if_ne d_St_enter_67 (ordP_i _ _) (fun c67 => ?_) (fun c67 => ?_)
      · refine zV_iload d_St_enter_71 rfl ?_
        refine zV_if_le d_St_enter_73 (ordP_i _ _) (fun c73 => ?_) (fun c73 => ?_)
        · refine zV_iinc (L' := [some (2, t), none, none, none, none, none, none, none, none, some (2, f), some (0, (a + 1)), some (0, (ordP (rP m1 (m1 (t + 1) a)) (rP m1 f)))]) d_St_enter_79 (by decide) rfl rfl ?_
          refine zV_goto d_St_enter_82 ?_
          refine zV_forget (L' := [some (2, t), none, none, none, none, none, none, none, none, some (2, f), some (0, (a + 1)), none]) (by simp [zle]) ?_
          have eo : ordP (s.2 a) x = ordP (rP m1 (m1 (t + 1) a)) (rP m1 f) := by rw [hx, (hp a (by omega) (by omega)).2]
          refine ih _ (by omega) (a + 1) rfl (by omega) ?_
          rw [← i1, zff_f (p := (fun p => 0 ≤ ordP (s.2 p) x)) (n := s.1) (i := a) (by omega) (show ¬ 0 ≤ ordP (s.2 a) x by omega)]
        · refine zV_goto d_St_enter_76 ?_
          refine zV_aload_n d_St_enter_85 rfl ?_
          refine zS_get d_St_enter_86 f_St_17 (kSt0 h) rfl ?_
          refine zV_istore (L' := [some (2, t), none, none, none, none, none, none, none, none, some (2, f), some (0, a), some (0, (m1 t 1))]) d_St_enter_89 (by decide) rfl ?_
          have hq : enQ s x = a := by
            by_cases e9 : a < s.1
            · rw [← i1, zff_t (p := (fun p => 0 ≤ ordP (s.2 p) x)) (n := s.1) (i := a) e9]
              show 0 ≤ ordP (s.2 a) x
              have eo : ordP (s.2 a) x = ordP (rP m1 (m1 (t + 1) a)) (rP m1 f) := by rw [hx, (hp a (by omega) (by omega)).2]
              omega
            · rw [← i1, zff_e (n := s.1) (by omega)]
          refine s_St_enter_91 m0 m1 t h hfm s x f hR hn h1 hf hf6 hx ox hp a i0 hq (fun z => ?_) _ _ ⟨by omega, by omega⟩ (h1 ▸ shW_0 t m1 _)
          have eo : ordP (s.2 a) x = ordP (rP m1 (m1 (t + 1) a)) (rP m1 f) := by rw [hx, (hp a (by omega) (by omega)).2]
          omega
      · exact zS_vret d_St_enter_70 rfl ⟨Nat.zero_le _, Nat.zero_le _⟩ ⟨rfl, en_no hR hn h1 hp (by rw [← i1, zff_t (p := (fun p => 0 ≤ ordP (s.2 p) x)) (n := s.1) (i := a) (by omega) (show 0 ≤ ordP (s.2 a) x by rw [hx, (hp a (by omega) (by omega)).2] at c67; omega)]) (by omega) (by rw [hx, (hp a (by omega) (by omega)).2] at c67; exact c67), hfm⟩
noncomputable def enR (s : PtS) (w y d q : Int) : PtS := cif (q = 0) s (entP s (tn q * w, tn q * y, d, tn q * q))
theorem wrR_o {mem : zMem} {x w y d q a : Int} (h : a ≠ x) : wrR mem x w y d q a = mem a := by
  unfold wrR
  rw [zup_a h, zup_a h, zup_a h, zup_a h]
theorem wrR_r {mem : zMem} {x w y d q : Int} : rP (wrR mem x w y d q) x = (tn q * w, tn q * y, d, tn q * q) := by
  unfold rP wrR
  simp only [zup_f]
  rfl
theorem en_full {t : Int} {mem : zMem} {s : PtS} {x : Pt} (h : PS mem t s) (hn : 12 ≤ s.1) : PS mem t (entP s x) := by
  have hE : entP s x = s := by
    unfold entP
    rw [cif_t (Or.inl hn)]
  rw [hE]
  exact h
theorem s_St_enter (mem : zMem) (t w y d q : Int) (h : isSt t) (hq : I64 q) (s : PtS) (hs : PS mem t s) (ox : q ≠ 0 → okP (tn q * w, tn q * y, d, tn q * q)) : zF m_St_enter [(2, t), (1, w), (1, y), (1, d), (1, q)] mem (fun r m => r = none ∧ PS m t (enR s w y d q) ∧ frE t mem m) := by
  obtain ⟨hR, h1, hn, hp⟩ := id hs
  unfold enR
  refine zF_of (by decide) (Nat.le_of_ble_eq_true rfl) ?_
  show zS zT m_St_enter (0, 0) 0 [some (2, t), some (1, w), none, some (1, y), none, some (1, d), none, some (1, q), none, none, none, none] [] mem _
  refine zV_lload d_St_enter_0 rfl ?_
  refine zV_lconst0 d_St_enter_2 ?_
  refine zV_lcmp_eq d_St_enter_3 d_St_enter_4 (by omega) (by omega) (fun c3 => ?_) (fun c3 => ?_)
  · exact zS_vret d_St_enter_16 rfl ⟨Nat.zero_le _, Nat.zero_le _⟩ (by first | (rw [cif_t (by omega)]; exact ⟨rfl, hs, frE_r _ _⟩) | (rw [cif_f (by omega)]; exact ⟨rfl, en_full hs (by omega), frE_r _ _⟩))
  · refine zV_aload_n d_St_enter_7 rfl ?_
    refine zS_get d_St_enter_8 f_St_17 (kSt0 h) rfl ?_
    refine zV_bipush d_St_enter_11 ?_
    refine zV_icmp_lt d_St_enter_13 (by omega) (by omega) (fun c13 => ?_) (fun c13 => ?_)
    · refine zV_aload_n d_St_enter_17 rfl ?_
      refine zS_getr (r := (t + 1)) d_St_enter_18 f_St_11 (kSt0 h) rfl rfl ?_
      refine zV_aload_n d_St_enter_21 rfl ?_
      refine zS_get d_St_enter_22 f_St_17 (kSt0 h) rfl ?_
      refine zS_ald16 d_St_enter_25 (kSt1 h) rfl ⟨by omega, by omega⟩ ?_
      refine zV_astore (L' := [some (2, t), some (1, w), none, some (1, y), none, some (1, d), none, some (1, q), none, some (2, (mem (t + 1) (mem t 1))), none, none]) d_St_enter_26 (by decide) rfl ?_
      refine zV_aload d_St_enter_28 rfl ?_
      refine zV_lload_n d_St_enter_30 rfl ?_
      refine zV_lload_n d_St_enter_31 rfl ?_
      refine zV_lload d_St_enter_32 rfl ?_
      refine zV_lload d_St_enter_34 rfl ?_
      refine zS_invvE (mt' := m_Ro_write) (avs := [(1, w), (1, y), (1, d), (1, q)]) (st := []) d_St_enter_36 l_St_118 k_Ro_write (kRoc h (hR.1 (mem t 1) (by omega) (by omega))) rfl rfl rfl rfl (s_Ro_write mem (mem (t + 1) (mem t 1)) w y d q (kRoc h (hR.1 (mem t 1) (by omega) (by omega))) hq) ?_
      show zS zT m_St_enter (0, 0) 39 [some (2, t), some (1, w), none, some (1, y), none, some (1, d), none, some (1, q), none, some (2, (mem (t + 1) (mem t 1))), none, none] [] (wrR mem (mem (t + 1) (mem t 1)) w y d q) _
      refine zV_iconst d_St_enter_39 ?_
      refine zV_istore (L' := [some (2, t), some (1, w), none, some (1, y), none, some (1, d), none, some (1, q), none, some (2, (mem (t + 1) (mem t 1))), some (0, 0), none]) d_St_enter_40 (by decide) rfl ?_
      refine zV_forget (L' := [some (2, t), none, none, none, none, none, none, none, none, some (2, (mem (t + 1) (mem t 1))), some (0, 0), none]) (by simp [zle]) ?_
      rw [cif_f (by omega)]
      have hfr : isRo t (mem (t + 1) (mem t 1)) := hR.1 (mem t 1) (by omega) (by omega)
      have e1 : t + 1 ≠ mem (t + 1) (mem t 1) := by have z : t + 9 ≤ mem (t + 1) (mem t 1) ∧ mem (t + 1) (mem t 1) < t + 21 := hfr; omega
      have e0 : t ≠ mem (t + 1) (mem t 1) := by have z : t + 9 ≤ mem (t + 1) (mem t 1) ∧ mem (t + 1) (mem t 1) < t + 21 := hfr; omega
      exact s_St_enter_42 mem (wrR mem (mem (t + 1) (mem t 1)) w y d q) t h ⟨fun a q1 q2 q3 => wrR_o (fun e => q3 (e ▸ hfr)), fun k _ => by rw [wrR_o e0]⟩ s _ (mem (t + 1) (mem t 1)) (by unfold RT; rw [wrR_o e1]; exact hR) ⟨hn.1, by omega⟩ (by rw [wrR_o e0]; exact h1) (by rw [wrR_o e1, h1]) (kRoc h hfr) wrR_r (ox (by omega)) (fun p q1 q2 => ⟨(hp p q1 q2).1, by rw [wrR_o e1]; rw [← (hp p q1 q2).2]; unfold rP; rw [wrR_o (hR.2 p (mem t 1) q1 (by omega) (by omega))]⟩) 0 ⟨by omega, hn.1⟩ rfl
    · exact zS_vret d_St_enter_16 rfl ⟨Nat.zero_le _, Nat.zero_le _⟩ (by first | (rw [cif_t (by omega)]; exact ⟨rfl, hs, frE_r _ _⟩) | (rw [cif_f (by omega)]; exact ⟨rfl, en_full hs (by omega), frE_r _ _⟩))
