/-! the reference: points entered -/
theorem zff_min {p : Int → Prop} : ∀ (k : Nat) (i j : Int), i ≤ j → j < zff p k i → ¬ p j
  | 0, i, j, h1, h2 => by
    have : zff p 0 i = i := rfl
    omega
  | k + 1, i, j, h1, h2 => by
    unfold zff at h2
    rcases Classical.em (p i) with c | c
    · rw [cif_t c] at h2
      omega
    · rw [cif_f c] at h2
      by_cases e : j = i
      · rw [e]; exact c
      · exact zff_min k (i + 1) j (by omega) h2
theorem zff_hit {p : Int → Prop} : ∀ (k : Nat) (i : Int), zff p k i < i + k → p (zff p k i)
  | 0, i, h => by
    have : zff p 0 i = i := rfl
    omega
  | k + 1, i, h => by
    unfold zff at h ⊢
    rcases Classical.em (p i) with c | c
    · rw [cif_t c]
      exact c
    · rw [cif_f c] at h ⊢
      exact zff_hit k (i + 1) (by omega)
def Srt (s : PtS) : Prop := ∀ i j, 0 ≤ i → i < j → j < s.1 → ordP (s.2 i) (s.2 j) = -1
def okA (s : PtS) : Prop := 0 ≤ s.1 ∧ ∀ k, 0 ≤ k → k < s.1 → okQ (s.2 k)
theorem en_at {s : PtS} {x : Pt} {a : Int} (ha : 0 ≤ a ∧ a ≤ s.1) (hlo : ∀ j, 0 ≤ j → j < a → ordP (s.2 j) x = -1) (hhi : a < s.1 → 0 ≤ ordP (s.2 a) x) : enQ s x = a := by
  have h1 := zff_r (p := fun p => 0 ≤ ordP (s.2 p) x) (s.1 - 0).toNat 0
  have h2 := zff_min (p := fun p => 0 ≤ ordP (s.2 p) x) (s.1 - 0).toNat 0
  have h3 := zff_hit (p := fun p => 0 ≤ ordP (s.2 p) x) (s.1 - 0).toNat 0
  unfold enQ
  generalize zff (fun p => 0 ≤ ordP (s.2 p) x) (s.1 - 0).toNat 0 = z at *
  apply Classical.byContradiction
  intro hne
  by_cases e : z < a
  · have c : 0 ≤ ordP (s.2 z) x := h3 (by omega)
    have d := hlo z h1.1 e
    omega
  · have c : ¬ 0 ≤ ordP (s.2 a) x := h2 a ha.1 (by omega)
    exact c (hhi (by omega))
theorem en_dup {s : PtS} {x : Pt} {k : Int} (hA : okA s) (hS : Srt s) (hx : okQ x) (hk : 0 ≤ k ∧ k < s.1) (h0 : ordP (s.2 k) x = 0) : entP s x = s := by
  have e : enQ s x = k := en_at ⟨hk.1, by omega⟩ (fun j q1 q2 => ord_tr (pk_ok (hA.2 j q1 (by omega)).1) (pk_ok (hA.2 k hk.1 hk.2).1) (pk_ok hx.1) (hS j k q1 q2 hk.2) h0 (Or.inl rfl)) (fun _ => by omega)
  unfold entP
  rw [cif_t (Or.inr ⟨by omega, by rw [e]; exact h0⟩)]
theorem en_ins {s : PtS} {x : Pt} {a : Int} (hA : okA s) (hS : Srt s) (hx : okQ x) (h12 : s.1 < 12) (ha : 0 ≤ a ∧ a ≤ s.1) (hlo : a = 0 ∨ ordP (s.2 (a - 1)) x = -1) (hhi : ∀ j, a ≤ j → j < s.1 → ordP (s.2 j) x = 1) : entP s x = (s.1 + 1, fun p => if p < a then s.2 p else if p = a then x else s.2 (p - 1)) := by
  have e : enQ s x = a := en_at ha (fun j q1 q2 => by
    rcases hlo with h | h
    · omega
    · by_cases e : j = a - 1
      · rw [e]; exact h
      · exact ord_tr (pk_ok (hA.2 j q1 (by omega)).1) (pk_ok (hA.2 (a - 1) (by omega) (by omega)).1) (pk_ok hx.1) (hS j (a - 1) q1 (by omega) (by omega)) h (Or.inr rfl)) (fun q => by have := hhi a (by omega) q; omega)
  unfold entP
  rw [cif_f (fun z => ?_), e]
  rcases z with z | z
  · omega
  · rw [e] at z
    have := hhi a (by omega) z.1
    omega
theorem ent_n (s : PtS) (x : Pt) : (entP s x).1 = s.1 ∨ (entP s x).1 = s.1 + 1 := by
  unfold entP
  rcases Classical.em (12 ≤ s.1 ∨ (enQ s x < s.1 ∧ ordP (s.2 (enQ s x)) x = 0)) with c | c
  · rw [cif_t c]; exact Or.inl rfl
  · rw [cif_f c]; exact Or.inr rfl
theorem ent_ok {s : PtS} {x : Pt} (hA : okA s) (hS : Srt s) (hx : okQ x) : okA (entP s x) ∧ Srt (entP s x) := by
  have h1 := zff_r (p := fun p => 0 ≤ ordP (s.2 p) x) (s.1 - 0).toNat 0
  have h2 := zff_min (p := fun p => 0 ≤ ordP (s.2 p) x) (s.1 - 0).toNat 0
  have h3 := zff_hit (p := fun p => 0 ≤ ordP (s.2 p) x) (s.1 - 0).toNat 0
  unfold entP
  rcases Classical.em (12 ≤ s.1 ∨ (enQ s x < s.1 ∧ ordP (s.2 (enQ s x)) x = 0)) with c | c
  · rw [cif_t c]; exact ⟨hA, hS⟩
  · rw [cif_f c]
    have c2 : enQ s x < s.1 → ordP (s.2 (enQ s x)) x ≠ 0 := fun z1 z2 => c (Or.inr ⟨z1, z2⟩)
    unfold enQ at *
    generalize zff (fun p => 0 ≤ ordP (s.2 p) x) (s.1 - 0).toNat 0 = a at *
    have hA1 := hA.1
    have lo : ∀ j, 0 ≤ j → j < a → ordP (s.2 j) x = -1 := fun j q1 q2 => by
      have z : ¬ 0 ≤ ordP (s.2 j) x := h2 j q1 q2
      have := ord_3 (s.2 j) x
      omega
    have hi : ∀ j, a ≤ j → j < s.1 → ordP x (s.2 j) = -1 := fun j q1 q2 => by
      have kx := pk_ok hx.1
      have ka := pk_ok (hA.2 a (by omega) (by omega)).1
      have kj := pk_ok (hA.2 j (by omega) q2).1
      have z : 0 ≤ ordP (s.2 a) x := h3 (by omega)
      have z2 := c2 (by omega)
      have z3 := ord_3 (s.2 a) x
      have z4 := ord_sy ka kx
      have z5 : ordP x (s.2 a) = -1 := by omega
      by_cases e : j = a
      · rw [e]; exact z5
      · exact ord_tr kx ka kj z5 (hS a j (by omega) (by omega) q2) (Or.inr rfl)
    refine ⟨⟨by show 0 ≤ s.1 + 1; omega, fun k q1 q2 => ?_⟩, fun i j q1 q2 q3 => ?_⟩
    · have q2' : k < s.1 + 1 := q2
      show okQ (if k < a then s.2 k else if k = a then x else s.2 (k - 1))
      by_cases e1 : k < a
      · rw [if_pos e1]; exact hA.2 k q1 (by omega)
      · rw [if_neg e1]
        by_cases e2 : k = a
        · rw [if_pos e2]; exact hx
        · rw [if_neg e2]; exact hA.2 (k - 1) (by omega) (by omega)
    · have q3' : j < s.1 + 1 := q3
      show ordP (if i < a then s.2 i else if i = a then x else s.2 (i - 1)) (if j < a then s.2 j else if j = a then x else s.2 (j - 1)) = -1
      by_cases e1 : j < a
      · rw [if_pos (show i < a by omega), if_pos e1]; exact hS i j q1 q2 (by omega)
      · rw [if_neg e1]
        by_cases e2 : j = a
        · rw [if_pos e2, if_pos (show i < a by omega)]; exact lo i q1 (by omega)
        · rw [if_neg e2]
          by_cases e3 : i < a
          · rw [if_pos e3]; exact hS i (j - 1) q1 (by omega) (by omega)
          · rw [if_neg e3]
            by_cases e4 : i = a
            · rw [if_pos e4]; exact hi (j - 1) (by omega) (by omega)
            · rw [if_neg e4]; exact hS (i - 1) (j - 1) (by omega) (by omega) (by omega)
/-- the reference holds these points -/
def MS (m : zMem) (s : PtS) : Prop := m 80 14 = s.1 ∧ s.1 ≤ 12 ∧ ∀ k, 0 ≤ k → k < s.1 → mP m k = s.2 k
def frP (mem m : zMem) : Prop := (∀ a, a ≠ 80 → (a < 86 ∨ 89 < a) → m a = mem a) ∧ ∀ k, k ≠ 14 → m 80 k = mem 80 k
theorem frP_r (m : zMem) : frP m m := ⟨fun _ _ _ => rfl, fun _ _ => rfl⟩
theorem frP_t {a b c : zMem} (h : frP a b) (h' : frP b c) : frP a c := ⟨fun x q1 q2 => (h'.1 x q1 q2).trans (h.1 x q1 q2), fun k q => (h'.2 k q).trans (h.2 k q)⟩
theorem frP_ly {m : zMem} {k : Int} {p : Pt} : frP m (lyN m k p) := ⟨fun a _ h => lyN_o h, fun k _ => by rw [lyN_o (by decide)]⟩
/-- the last ones moved on by one place -/
def shM (m2 : zMem) (n k : Int) (m : zMem) : Prop := frP m2 m ∧ m 80 14 = m2 80 14 ∧ ∀ j, mP m j = if k < j ∧ j ≤ n then mP m2 (j - 1) else mP m2 j
theorem shM_s {m2 m : zMem} {n k : Int} (h : shM m2 n k m) (hk : 0 < k ∧ k ≤ n) : shM m2 n (k - 1) (lyN m k (mP m (k - 1))) := by
  obtain ⟨h1, h2, h3⟩ := h
  refine ⟨frP_t h1 frP_ly, by rw [lyN_o (by decide)]; exact h2, fun j => ?_⟩
  by_cases e : j = k
  · rw [e, lyN_s, h3, if_neg (by omega), if_pos (by omega)]
  · rw [lyN_n e, h3]
    by_cases e2 : k < j ∧ j ≤ n
    · rw [if_pos e2, if_pos (by omega)]
    · rw [if_neg e2, if_neg (by omega)]
theorem s_Mo_addPoint_100 (m2 : zMem) (n a : Int) (ha : 0 ≤ a ∧ a ≤ n) (hn : n ≤ 12) (e14 : m2 80 14 = n) (p y d q : Int) (hd : 0 ≤ d ∧ d ≤ 500) (hq : I64 q) (hx : okQ (nrm p y d q)) (Q9 : zQ2) (kq : ∀ m, shM m2 n a m → Q9 none (zup (lyN m a (nrm p y d q)) 80 14 (n + 1))) : ∀ (k : Int) (m : zMem), (a ≤ k ∧ k ≤ n) → (shM m2 n k m) → zS zT m_Mo_addPoint (0, 0) 100 [some (2, 80), some (1, p), none, some (1, y), none, some (1, d), none, some (1, q), none, some (0, a), some (0, k)] [] m (zQs (Q9)) := by
  intro k m
  obtain ⟨k9, hk9⟩ : ∃ kq : Nat, (k - a).toNat = kq := ⟨_, rfl⟩
  induction k9 using Nat.strongRecOn generalizing k m with
  | _ k9 ih =>
    intro i0 i1
    have e15 : m 80 14 = n := i1.2.1.trans e14
    refine zV_iload d_Mo_addPoint_100 rfl ?_
    refine zV_iload d_Mo_addPoint_102 rfl ?_
    refine zV_icmp_le d_Mo_addPoint_104 (by omega) (by omega) (fun c104 => ?_) (fun c104 => ?_)
    · refine zV_aload_n d_Mo_addPoint_177 rfl ?_
      refine zV_iload d_Mo_addPoint_178 rfl ?_
      refine zV_lload_n d_Mo_addPoint_180 rfl ?_
      refine zV_lload_n d_Mo_addPoint_181 rfl ?_
      refine zV_lload d_Mo_addPoint_182 rfl ?_
      refine zV_lload d_Mo_addPoint_184 rfl ?_
      refine zS_invvE (mt' := m_Mo_layNumber) (avs := [(0, a), (1, p), (1, y), (1, d), (1, q)]) (st := []) d_Mo_addPoint_186 l_Mo_159 k_Mo_layNumber rfl rfl rfl rfl rfl (s_Mo_layNumber m a p y d q ⟨by omega, by omega⟩ hd hq) ?_
      show zS zT m_Mo_addPoint (0, 0) 189 [some (2, 80), some (1, p), none, some (1, y), none, some (1, d), none, some (1, q), none, some (0, a), some (0, k)] [] (lyN m a (nrm p y d q)) _
      refine zV_aload_n d_Mo_addPoint_189 rfl ?_
      refine zV_dup d_Mo_addPoint_190 (show (2 : Nat) ≠ 1 by decide) ?_
      refine zS_get d_Mo_addPoint_191 f_Mo_156 rfl rfl ?_
      refine zV_iconst d_Mo_addPoint_194 ?_
      refine zV_iadd d_Mo_addPoint_195 ?_
      refine zS_puti d_Mo_addPoint_196 f_Mo_156 rfl ⟨rfl, rfl⟩ rfl ?_
      exact zS_vret d_Mo_addPoint_199 rfl ⟨Nat.zero_le _, Nat.zero_le _⟩ (by have e16 : lyN m a (nrm p y d q) 80 14 = n := (congrFun (lyN_o (by decide)) 14).trans e15; rw [e16]; exact kq m (by rw [show a = k by omega]; exact i1))
    · refine zV_aload_n d_Mo_addPoint_107 rfl ?_
      refine zS_getr (r := 86) d_Mo_addPoint_108 f_Mo_25 rfl rfl rfl ?_
      refine zV_iload d_Mo_addPoint_111 rfl ?_
      refine zV_aload_n d_Mo_addPoint_113 rfl ?_
      refine zS_getr (r := 86) d_Mo_addPoint_114 f_Mo_25 rfl rfl rfl ?_
      refine zV_iload d_Mo_addPoint_117 rfl ?_
      refine zV_iconst d_Mo_addPoint_119 ?_
      refine zV_isub d_Mo_addPoint_120 ?_
      refine zS_lald d_Mo_addPoint_121 rfl rfl ⟨by omega, by omega⟩ ?_
      refine zS_last d_Mo_addPoint_122 rfl rfl ⟨by omega, by omega⟩ ?_
      refine zV_aload_n d_Mo_addPoint_123 rfl ?_
      refine zS_getr (r := 87) d_Mo_addPoint_124 f_Mo_29 rfl rfl rfl ?_
      refine zV_iload d_Mo_addPoint_127 rfl ?_
      refine zV_aload_n d_Mo_addPoint_129 rfl ?_
      refine zS_getr (r := 87) d_Mo_addPoint_130 f_Mo_29 rfl rfl rfl ?_
      refine zV_iload d_Mo_addPoint_133 rfl ?_
      refine zV_iconst d_Mo_addPoint_135 ?_
      refine zV_isub d_Mo_addPoint_136 ?_
      refine zS_lald d_Mo_addPoint_137 rfl rfl ⟨by omega, by omega⟩ ?_
      rw [show (zup m 86 k (m 86 (k - 1))) 87 (k - 1) = (m 87 (k - 1)) from zup_c (by omega)]
      refine zS_last d_Mo_addPoint_138 rfl rfl ⟨by omega, by omega⟩ ?_
      refine zV_aload_n d_Mo_addPoint_139 rfl ?_
      refine zS_getr (r := 88) d_Mo_addPoint_140 f_Mo_32 rfl rfl rfl ?_
      refine zV_iload d_Mo_addPoint_143 rfl ?_
      refine zV_aload_n d_Mo_addPoint_145 rfl ?_
      refine zS_getr (r := 88) d_Mo_addPoint_146 f_Mo_32 rfl rfl rfl ?_
      refine zV_iload d_Mo_addPoint_149 rfl ?_
      refine zV_iconst d_Mo_addPoint_151 ?_
      refine zV_isub d_Mo_addPoint_152 ?_
      refine zS_lald d_Mo_addPoint_153 rfl rfl ⟨by omega, by omega⟩ ?_
      rw [show (zup (zup m 86 k (m 86 (k - 1))) 87 k (m 87 (k - 1))) 88 (k - 1) = (m 88 (k - 1)) from (zup_c (by omega)).trans (zup_c (by omega))]
      refine zS_last d_Mo_addPoint_154 rfl rfl ⟨by omega, by omega⟩ ?_
      refine zV_aload_n d_Mo_addPoint_155 rfl ?_
      refine zS_getr (r := 89) d_Mo_addPoint_156 f_Mo_35 rfl rfl rfl ?_
      refine zV_iload d_Mo_addPoint_159 rfl ?_
      refine zV_aload_n d_Mo_addPoint_161 rfl ?_
      refine zS_getr (r := 89) d_Mo_addPoint_162 f_Mo_35 rfl rfl rfl ?_
      refine zV_iload d_Mo_addPoint_165 rfl ?_
      refine zV_iconst d_Mo_addPoint_167 ?_
      refine zV_isub d_Mo_addPoint_168 ?_
      refine zS_lald d_Mo_addPoint_169 rfl rfl ⟨by omega, by omega⟩ ?_
      rw [show (zup (zup (zup m 86 k (m 86 (k - 1))) 87 k (m 87 (k - 1))) 88 k (m 88 (k - 1))) 89 (k - 1) = (m 89 (k - 1)) from (zup_c (by omega)).trans ((zup_c (by omega)).trans (zup_c (by omega)))]
      refine zS_last d_Mo_addPoint_170 rfl rfl ⟨by omega, by omega⟩ ?_
      refine zV_iinc (L' := [some (2, 80), some (1, p), none, some (1, y), none, some (1, d), none, some (1, q), none, some (0, a), some (0, (k + (-1)))]) d_Mo_addPoint_171 (by decide) rfl rfl ?_
      refine zV_goto d_Mo_addPoint_174 ?_
      exact ih _ (by omega) (k - 1) (lyN m k (mP m (k - 1))) rfl (by omega) (shM_s i1 (by omega))
theorem s_Mo_addPoint_52 (mem : zMem) (s : PtS) (hA : okA s) (hS : Srt s) (h12 : s.1 < 12) (p y d q : Int) (hd : 0 ≤ d ∧ d ≤ 500) (hq : I64 q) (hx : okQ (nrm p y d q)) (m1 : zMem) (hf1 : frP mem m1) (e14 : m1 80 14 = s.1) (hP1 : ∀ j, 0 ≤ j → j < s.1 → mP m1 j = s.2 j) (hX1 : mP m1 s.1 = (nrm p y d q)) (hne : ∀ j, 0 ≤ j → j < s.1 → ordP (s.2 j) (nrm p y d q) ≠ 0) : ∀ (a : Int), (0 ≤ a ∧ a ≤ s.1) → (∀ j, a ≤ j → j < s.1 → ordP (s.2 j) (nrm p y d q) = 1) → zS zT m_Mo_addPoint (0, 0) 52 [some (2, 80), some (1, p), none, some (1, y), none, some (1, d), none, some (1, q), none, some (0, a), none] [] m1 (zQs (fun r m => r = none ∧ MS m (entP s (nrm p y d q)) ∧ frP mem m)) := by
  intro a
  obtain ⟨k9, hk9⟩ : ∃ kq : Nat, a.toNat = kq := ⟨_, rfl⟩
  induction k9 using Nat.strongRecOn generalizing a with
  | _ k9 ih =>
    intro i0 i1
    have ho : ∀ j, 0 ≤ j → j < s.1 → okP (mP m1 j) := fun j q1 q2 => by rw [hP1 j q1 q2]; exact (hA.2 j q1 q2).1
    have hoX : okP (mP m1 s.1) := by rw [hX1]; exact hx.1
    have hc : ∀ j, 0 ≤ j → j < s.1 → ordP (mP m1 j) (mP m1 (m1 80 14)) = ordP (s.2 j) (nrm p y d q) := fun j q1 q2 => by rw [e14, hP1 j q1 q2, hX1]
    refine zV_iload d_Mo_addPoint_52 rfl ?_
    refine zV_if_le d_Mo_addPoint_54 (by omega) (fun c54 => ?_) (fun c54 => ?_)
    · refine zV_aload_n d_Mo_addPoint_78 rfl ?_
      refine zV_aload_n d_Mo_addPoint_79 rfl ?_
      refine zS_get d_Mo_addPoint_80 f_Mo_156 rfl rfl ?_
      refine zV_iconst d_Mo_addPoint_83 ?_
      refine zV_iadd d_Mo_addPoint_84 ?_
      refine zV_lload_n d_Mo_addPoint_85 rfl ?_
      refine zV_lload_n d_Mo_addPoint_86 rfl ?_
      refine zV_lload d_Mo_addPoint_87 rfl ?_
      refine zV_lload d_Mo_addPoint_89 rfl ?_
      refine zS_invv (mt' := m_Mo_layNumber) (avs := [(0, ((m1 80 14) + 1)), (1, p), (1, y), (1, d), (1, q)]) (st := []) d_Mo_addPoint_91 l_Mo_159 k_Mo_layNumber rfl rfl rfl rfl rfl (s_Mo_layNumber m1 ((m1 80 14) + 1) p y d q ⟨by omega, by omega⟩ hd hq) (fun r9 m2 hq9 => ?_)
      obtain ⟨rfl, hm2⟩ := hq9
      have e24 : m2 80 14 = s.1 := by rw [hm2]; exact (congrFun (lyN_o (by decide)) 14).trans e14
      show zS zT m_Mo_addPoint (0, 0) 94 [some (2, 80), some (1, p), none, some (1, y), none, some (1, d), none, some (1, q), none, some (0, a), none] [] m2 _
      refine zV_aload_n d_Mo_addPoint_94 rfl ?_
      refine zS_get d_Mo_addPoint_95 f_Mo_156 rfl rfl ?_
      refine zV_istore (L' := [some (2, 80), some (1, p), none, some (1, y), none, some (1, d), none, some (1, q), none, some (0, a), some (0, (m2 80 14))]) d_Mo_addPoint_98 (by decide) rfl ?_
      rw [e24]
      have hlo : a = 0 ∨ ordP (s.2 (a - 1)) (nrm p y d q) = -1 := by
        by_cases e : a = 0
        · exact Or.inl e
        · right
          have o3 := ord_3 (s.2 (a - 1)) (nrm p y d q)
          have o4 := hne (a - 1) (by omega) (by omega)
          have o5 := hc (a - 1) (by omega) (by omega)
          omega
      refine s_Mo_addPoint_100 m2 s.1 a i0 (by omega) e24 p y d q hd hq hx _ (fun m hm => ⟨rfl, ?_, ?_⟩) s.1 m2 (by omega) ⟨frP_r _, rfl, fun j => by rw [if_neg (by omega)]⟩
      · rw [en_ins hA hS hx h12 i0 hlo i1]
        refine ⟨zup_s, by show s.1 + 1 ≤ 12; omega, fun j q1 q2 => ?_⟩
        have q2' : j < s.1 + 1 := q2
        have ej : mP (zup (lyN m a (nrm p y d q)) 80 14 (s.1 + 1)) j = mP (lyN m a (nrm p y d q)) j := by unfold mP; rw [zup_c (by decide), zup_c (by decide), zup_c (by decide), zup_c (by decide)]
        rw [ej]
        show mP (lyN m a (nrm p y d q)) j = if j < a then s.2 j else if j = a then (nrm p y d q) else s.2 (j - 1)
        by_cases e1 : j = a
        · rw [e1, lyN_s, if_neg (by omega), if_pos rfl]
        · rw [lyN_n e1, hm.2.2 j]
          by_cases e2 : j < a
          · rw [if_neg (by omega), if_pos e2, hm2, lyN_n (by omega)]
            exact hP1 j q1 (by omega)
          · rw [if_pos (by omega), if_neg e2, if_neg e1, hm2, lyN_n (by omega)]
            exact hP1 (j - 1) (by omega) (by omega)
      · refine frP_t hf1 (frP_t (by rw [hm2]; exact frP_ly) (frP_t hm.1 (frP_t (frP_ly (k := a) (p := nrm p y d q)) ?_)))
        exact ⟨fun x q1 _ => zup_a q1, fun k q => zup_k q⟩
    · refine zV_aload_n d_Mo_addPoint_57 rfl ?_
      refine zV_iload d_Mo_addPoint_58 rfl ?_
      refine zV_iconst d_Mo_addPoint_60 ?_
      refine zV_isub d_Mo_addPoint_61 ?_
      refine zV_aload_n d_Mo_addPoint_62 rfl ?_
      refine zS_get d_Mo_addPoint_63 f_Mo_156 rfl rfl ?_
      refine zS_invvE (mt' := m_Mo_compare) (avs := [(0, (a - 1)), (0, (m1 80 14))]) (st := []) d_Mo_addPoint_66 l_Mo_163 k_Mo_compare rfl rfl rfl rfl rfl (s_Mo_compare m1 (a - 1) (m1 80 14) ⟨by omega, by omega⟩ ⟨by omega, by omega⟩ (ho _ (by omega) (by omega)) (by rw [e14]; exact hoX)) ?_
      show zS zT m_Mo_addPoint (0, 0) 69 [some (2, 80), some (1, p), none, some (1, y), none, some (1, d), none, some (1, q), none, some (0, a), none] [(0, (ordP (mP m1 (a - 1)) (mP m1 (m1 80 14))))] m1 _
      refine zV_if_le d_Mo_addPoint_69 (ordP_i _ _) (fun c69 => ?_) (fun c69 => ?_)
      · refine zV_aload_n d_Mo_addPoint_78 rfl ?_
        refine zV_aload_n d_Mo_addPoint_79 rfl ?_
        refine zS_get d_Mo_addPoint_80 f_Mo_156 rfl rfl ?_
        refine zV_iconst d_Mo_addPoint_83 ?_
        refine zV_iadd d_Mo_addPoint_84 ?_
        refine zV_lload_n d_Mo_addPoint_85 rfl ?_
        refine zV_lload_n d_Mo_addPoint_86 rfl ?_
        refine zV_lload d_Mo_addPoint_87 rfl ?_
        refine zV_lload d_Mo_addPoint_89 rfl ?_
        refine zS_invv (mt' := m_Mo_layNumber) (avs := [(0, ((m1 80 14) + 1)), (1, p), (1, y), (1, d), (1, q)]) (st := []) d_Mo_addPoint_91 l_Mo_159 k_Mo_layNumber rfl rfl rfl rfl rfl (s_Mo_layNumber m1 ((m1 80 14) + 1) p y d q ⟨by omega, by omega⟩ hd hq) (fun r9 m2 hq9 => ?_)
        obtain ⟨rfl, hm2⟩ := hq9
        have e24 : m2 80 14 = s.1 := by rw [hm2]; exact (congrFun (lyN_o (by decide)) 14).trans e14
        show zS zT m_Mo_addPoint (0, 0) 94 [some (2, 80), some (1, p), none, some (1, y), none, some (1, d), none, some (1, q), none, some (0, a), none] [] m2 _
        refine zV_aload_n d_Mo_addPoint_94 rfl ?_
        refine zS_get d_Mo_addPoint_95 f_Mo_156 rfl rfl ?_
        refine zV_istore (L' := [some (2, 80), some (1, p), none, some (1, y), none, some (1, d), none, some (1, q), none, some (0, a), some (0, (m2 80 14))]) d_Mo_addPoint_98 (by decide) rfl ?_
        rw [e24]
        have hlo : a = 0 ∨ ordP (s.2 (a - 1)) (nrm p y d q) = -1 := by
          by_cases e : a = 0
          · exact Or.inl e
          · right
            have o3 := ord_3 (s.2 (a - 1)) (nrm p y d q)
            have o4 := hne (a - 1) (by omega) (by omega)
            have o5 := hc (a - 1) (by omega) (by omega)
            omega
        refine s_Mo_addPoint_100 m2 s.1 a i0 (by omega) e24 p y d q hd hq hx _ (fun m hm => ⟨rfl, ?_, ?_⟩) s.1 m2 (by omega) ⟨frP_r _, rfl, fun j => by rw [if_neg (by omega)]⟩
        · rw [en_ins hA hS hx h12 i0 hlo i1]
          refine ⟨zup_s, by show s.1 + 1 ≤ 12; omega, fun j q1 q2 => ?_⟩
          have q2' : j < s.1 + 1 := q2
          have ej : mP (zup (lyN m a (nrm p y d q)) 80 14 (s.1 + 1)) j = mP (lyN m a (nrm p y d q)) j := by unfold mP; rw [zup_c (by decide), zup_c (by decide), zup_c (by decide), zup_c (by decide)]
          rw [ej]
          show mP (lyN m a (nrm p y d q)) j = if j < a then s.2 j else if j = a then (nrm p y d q) else s.2 (j - 1)
          by_cases e1 : j = a
          · rw [e1, lyN_s, if_neg (by omega), if_pos rfl]
          · rw [lyN_n e1, hm.2.2 j]
            by_cases e2 : j < a
            · rw [if_neg (by omega), if_pos e2, hm2, lyN_n (by omega)]
              exact hP1 j q1 (by omega)
            · rw [if_pos (by omega), if_neg e2, if_neg e1, hm2, lyN_n (by omega)]
              exact hP1 (j - 1) (by omega) (by omega)
        · refine frP_t hf1 (frP_t (by rw [hm2]; exact frP_ly) (frP_t hm.1 (frP_t (frP_ly (k := a) (p := nrm p y d q)) ?_)))
          exact ⟨fun x q1 _ => zup_a q1, fun k q => zup_k q⟩
      · refine zV_iinc (L' := [some (2, 80), some (1, p), none, some (1, y), none, some (1, d), none, some (1, q), none, some (0, (a + (-1))), none]) d_Mo_addPoint_72 (by decide) rfl rfl ?_
        refine zV_goto d_Mo_addPoint_75 ?_
        rw [hc (a - 1) (by omega) (by omega)] at c69
        refine ih _ (by omega) (a + (-1)) rfl (by omega) (fun j q1 q2 => ?_)
        have o3 := ord_3 (s.2 (a - 1)) (nrm p y d q)
        by_cases e : j = a - 1
        · rw [e]; omega
        · exact i1 j (by omega) q2
theorem s_Mo_addPoint_23 (mem : zMem) (s : PtS) (hA : okA s) (hS : Srt s) (h12 : s.1 < 12) (p y d q : Int) (hd : 0 ≤ d ∧ d ≤ 500) (hq : I64 q) (hx : okQ (nrm p y d q)) (m1 : zMem) (hf1 : frP mem m1) (e14 : m1 80 14 = s.1) (hP1 : ∀ j, 0 ≤ j → j < s.1 → mP m1 j = s.2 j) (hX1 : mP m1 s.1 = (nrm p y d q)) : ∀ (k : Int), (0 ≤ k ∧ k ≤ s.1) → (∀ j, 0 ≤ j → j < k → ordP (s.2 j) (nrm p y d q) ≠ 0) → zS zT m_Mo_addPoint (0, 0) 23 [some (2, 80), some (1, p), none, some (1, y), none, some (1, d), none, some (1, q), none, some (0, s.1), some (0, k)] [] m1 (zQs (fun r m => r = none ∧ MS m (entP s (nrm p y d q)) ∧ frP mem m)) := by
  intro k
  obtain ⟨k9, hk9⟩ : ∃ kq : Nat, (s.1 - k).toNat = kq := ⟨_, rfl⟩
  induction k9 using Nat.strongRecOn generalizing k with
  | _ k9 ih =>
    intro i0 i1
    have ho : ∀ j, 0 ≤ j → j < s.1 → okP (mP m1 j) := fun j q1 q2 => by rw [hP1 j q1 q2]; exact (hA.2 j q1 q2).1
    have hoX : okP (mP m1 s.1) := by rw [hX1]; exact hx.1
    have hc : ∀ j, 0 ≤ j → j < s.1 → ordP (mP m1 j) (mP m1 (m1 80 14)) = ordP (s.2 j) (nrm p y d q) := fun j q1 q2 => by rw [e14, hP1 j q1 q2, hX1]
    refine zV_iload d_Mo_addPoint_23 rfl ?_
    refine zV_aload_n d_Mo_addPoint_25 rfl ?_
    refine zS_get d_Mo_addPoint_26 f_Mo_156 rfl rfl ?_
    refine zV_icmp_ge d_Mo_addPoint_29 (by omega) (by omega) (fun c29 => ?_) (fun c29 => ?_)
    · refine zV_forget (L' := [some (2, 80), some (1, p), none, some (1, y), none, some (1, d), none, some (1, q), none, some (0, s.1), none]) (by simp [zle]) ?_
      exact s_Mo_addPoint_52 mem s hA hS h12 p y d q hd hq hx m1 hf1 e14 hP1 hX1 (fun j q1 q2 => i1 j q1 (by omega)) s.1 ⟨hA.1, by omega⟩ (fun j q1 q2 => by omega)
    · refine zV_aload_n d_Mo_addPoint_32 rfl ?_
      refine zV_iload d_Mo_addPoint_33 rfl ?_
      refine zV_aload_n d_Mo_addPoint_35 rfl ?_
      refine zS_get d_Mo_addPoint_36 f_Mo_156 rfl rfl ?_
      refine zS_invvE (mt' := m_Mo_compare) (avs := [(0, k), (0, (m1 80 14))]) (st := []) d_Mo_addPoint_39 l_Mo_163 k_Mo_compare rfl rfl rfl rfl rfl (s_Mo_compare m1 k (m1 80 14) ⟨by omega, by omega⟩ ⟨by omega, by omega⟩ (ho _ (by omega) (by omega)) (by rw [e14]; exact hoX)) ?_
      show zS zT m_Mo_addPoint (0, 0) 42 [some (2, 80), some (1, p), none, some (1, y), none, some (1, d), none, some (1, q), none, some (0, s.1), some (0, k)] [(0, (ordP (mP m1 k) (mP m1 (m1 80 14))))] m1 _
      refine zV_if_ne d_Mo_addPoint_42 (ordP_i _ _) (fun c42 => ?_) (fun c42 => ?_)
      · refine zV_iinc (L' := [some (2, 80), some (1, p), none, some (1, y), none, some (1, d), none, some (1, q), none, some (0, s.1), some (0, (k + 1))]) d_Mo_addPoint_46 (by decide) rfl rfl ?_
        refine zV_goto d_Mo_addPoint_49 ?_
        rw [hc k (by omega) (by omega)] at c42
        refine ih _ (by omega) (k + 1) rfl (by omega) (fun j q1 q2 => ?_)
        by_cases e : j = k
        · rw [e]; exact c42
        · exact i1 j q1 (by omega)
      · exact zS_vret d_Mo_addPoint_45 rfl ⟨Nat.zero_le _, Nat.zero_le _⟩ (by rw [hc k (by omega) (by omega)] at c42; refine ⟨rfl, ?_, hf1⟩; rw [en_dup hA hS hx ⟨i0.1, by omega⟩ c42]; exact ⟨e14, by omega, hP1⟩)
theorem s_Mo_addPoint (mem : zMem) (s : PtS) (hA : okA s) (hS : Srt s) (h12 : s.1 < 12) (hM : MS mem s) (p y d q : Int) (hd : 0 ≤ d ∧ d ≤ 500) (hq : I64 q) (hx : okQ (nrm p y d q)) : zF m_Mo_addPoint [(2, 80), (1, p), (1, y), (1, d), (1, q)] mem (fun r m => r = none ∧ MS m (entP s (nrm p y d q)) ∧ frP mem m) := by
  have e0 := hM.1
  have a0 := hA.1
  refine zF_of (by decide) (Nat.le_of_ble_eq_true rfl) ?_
  show zS zT m_Mo_addPoint (0, 0) 0 [some (2, 80), some (1, p), none, some (1, y), none, some (1, d), none, some (1, q), none, none, none] [] mem _
  refine zV_aload_n d_Mo_addPoint_0 rfl ?_
  refine zV_aload_n d_Mo_addPoint_1 rfl ?_
  refine zS_get d_Mo_addPoint_2 f_Mo_156 rfl rfl ?_
  refine zV_lload_n d_Mo_addPoint_5 rfl ?_
  refine zV_lload_n d_Mo_addPoint_6 rfl ?_
  refine zV_lload d_Mo_addPoint_7 rfl ?_
  refine zV_lload d_Mo_addPoint_9 rfl ?_
  refine zS_invv (mt' := m_Mo_layNumber) (avs := [(0, (mem 80 14)), (1, p), (1, y), (1, d), (1, q)]) (st := []) d_Mo_addPoint_11 l_Mo_159 k_Mo_layNumber rfl rfl rfl rfl rfl (s_Mo_layNumber mem (mem 80 14) p y d q ⟨by omega, by omega⟩ hd hq) (fun r9 m1 hq9 => ?_)
  obtain ⟨rfl, hm1⟩ := hq9
  rw [e0] at hm1
  have e14 : m1 80 14 = s.1 := by rw [hm1]; exact (congrFun (lyN_o (by decide)) 14).trans e0
  show zS zT m_Mo_addPoint (0, 0) 14 [some (2, 80), some (1, p), none, some (1, y), none, some (1, d), none, some (1, q), none, none, none] [] m1 _
  refine zV_aload_n d_Mo_addPoint_14 rfl ?_
  refine zS_get d_Mo_addPoint_15 f_Mo_156 rfl rfl ?_
  refine zV_istore (L' := [some (2, 80), some (1, p), none, some (1, y), none, some (1, d), none, some (1, q), none, some (0, (m1 80 14)), none]) d_Mo_addPoint_18 (by decide) rfl ?_
  refine zV_iconst d_Mo_addPoint_20 ?_
  refine zV_istore (L' := [some (2, 80), some (1, p), none, some (1, y), none, some (1, d), none, some (1, q), none, some (0, (m1 80 14)), some (0, 0)]) d_Mo_addPoint_21 (by decide) rfl ?_
  rw [e14]
  refine s_Mo_addPoint_23 mem s hA hS h12 p y d q hd hq hx m1 (by rw [hm1]; exact frP_ly) e14 (fun j q1 q2 => ?_) (by rw [hm1, lyN_s]) 0 (by omega) (fun j q1 q2 => by omega)
  rw [hm1, lyN_n (by omega)]
  exact hM.2.2 j q1 q2
