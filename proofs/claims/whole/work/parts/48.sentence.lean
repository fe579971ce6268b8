/-! what is decided: a sentence -/
theorem riA_o {m : zMem} {v x : Int} (h : x ≠ 78 ∧ x ≠ 79) : riA m v x = m x := by
  unfold riA
  rw [zup_a h.1, zup_a h.1, zup_a h.2]
theorem s_Cp_sentence (mem : zMem) (p q k f : Int) (hp : I32 p) (hq : I32 q) (hk : I32 k) (hf : I32 f) (hT : okT mem 31) (hr : 0 ≤ mem 3 1 ∧ mem 3 1 ≤ 4) (h1 : 0 ≤ mem 78 1 ∧ mem 78 1 < 8) (h2 : 0 ≤ mem 78 2 ∧ mem 78 2 ≤ 8) : zF m_Cp_sentence [(2, 0), (0, p), (0, q), (0, k), (0, f)] mem (fun r m => (¬ ((p = 0 ∨ p = 1) ∧ (q = 0 ∨ q = 1) ∧ (k = 0 ∨ k = 1) ∧ okF f) ∧ r = some (0, -102) ∧ m = mem) ∨ (((p = 0 ∨ p = 1) ∧ (q = 0 ∨ q = 1) ∧ (k = 0 ∨ k = 1) ∧ okF f) ∧ mem 3 1 = 0 ∧ r = some (0, -103) ∧ m = mem) ∨ (((p = 0 ∨ p = 1) ∧ (q = 0 ∨ q = 1) ∧ (k = 0 ∨ k = 1) ∧ okF f) ∧ mem 3 1 ≠ 0 ∧ r = some (0, (zb (soX (rdF mem k f) p q))) ∧ m = zup (riA (rdF mem k f) (zb (soX (rdF mem k f) p q))) 0 14 (mem 0 14 + 1))) := by
  have hT1 : okT (rdF mem k f) 31 := okT_fs (fun x q1 q2 => rdF_o (by omega)) hT
  have e78 : rdF mem k f 78 = mem 78 := rdF_o (by decide)
  have e0 : ∀ v, riA (rdF mem k f) v 0 14 = mem 0 14 := fun v => by rw [riA_o (by decide), rdF_o (by decide)]
  refine zF_of (by decide) (Nat.le_of_ble_eq_true rfl) ?_
  show zS zT m_Cp_sentence (0, 0) 0 [some (2, 0), some (0, p), some (0, q), some (0, k), some (0, f), none] [] mem _
  refine zV_iload_n d_Cp_sentence_0 rfl ?_
  refine zS_invsE (mt' := m_Cp_isBit) (avs := [(0, p)]) (st := []) d_Cp_sentence_1 l_Cp_209 k_Cp_isBit rfl rfl rfl rfl (s_Cp_isBit mem p (by omega)) ?_
  show zS zT m_Cp_sentence (0, 0) 4 [some (2, 0), some (0, p), some (0, q), some (0, k), some (0, f), none] [(0, (zb (p = 0 ∨ p = 1)))] mem _
  refine zV_ifb_eq d_Cp_sentence_4 (fun c4 => ?_) (fun c4 => ?_)
  · refine zV_bipush d_Cp_sentence_29 ?_
    exact zS_iret d_Cp_sentence_31 rfl ⟨Nat.zero_le _, Nat.zero_le _⟩ (Or.inl ⟨fun z => by first | exact absurd z.1 (by assumption) | exact absurd z.2.1 (by assumption) | exact absurd z.2.2.1 (by assumption) | exact absurd z.2.2.2 (by assumption), rfl, rfl⟩)
  · refine zV_iload_n d_Cp_sentence_7 rfl ?_
    refine zS_invsE (mt' := m_Cp_isBit) (avs := [(0, q)]) (st := []) d_Cp_sentence_8 l_Cp_209 k_Cp_isBit rfl rfl rfl rfl (s_Cp_isBit mem q (by omega)) ?_
    show zS zT m_Cp_sentence (0, 0) 11 [some (2, 0), some (0, p), some (0, q), some (0, k), some (0, f), none] [(0, (zb (q = 0 ∨ q = 1)))] mem _
    refine zV_ifb_eq d_Cp_sentence_11 (fun c11 => ?_) (fun c11 => ?_)
    · refine zV_bipush d_Cp_sentence_29 ?_
      exact zS_iret d_Cp_sentence_31 rfl ⟨Nat.zero_le _, Nat.zero_le _⟩ (Or.inl ⟨fun z => by first | exact absurd z.1 (by assumption) | exact absurd z.2.1 (by assumption) | exact absurd z.2.2.1 (by assumption) | exact absurd z.2.2.2 (by assumption), rfl, rfl⟩)
    · refine zV_iload_n d_Cp_sentence_14 rfl ?_
      refine zS_invsE (mt' := m_Cp_isBit) (avs := [(0, k)]) (st := []) d_Cp_sentence_15 l_Cp_209 k_Cp_isBit rfl rfl rfl rfl (s_Cp_isBit mem k (by omega)) ?_
      show zS zT m_Cp_sentence (0, 0) 18 [some (2, 0), some (0, p), some (0, q), some (0, k), some (0, f), none] [(0, (zb (k = 0 ∨ k = 1)))] mem _
      refine zV_ifb_eq d_Cp_sentence_18 (fun c18 => ?_) (fun c18 => ?_)
      · refine zV_bipush d_Cp_sentence_29 ?_
        exact zS_iret d_Cp_sentence_31 rfl ⟨Nat.zero_le _, Nat.zero_le _⟩ (Or.inl ⟨fun z => by first | exact absurd z.1 (by assumption) | exact absurd z.2.1 (by assumption) | exact absurd z.2.2.1 (by assumption) | exact absurd z.2.2.2 (by assumption), rfl, rfl⟩)
      · refine zV_iload d_Cp_sentence_21 rfl ?_
        refine zS_invsE (mt' := m_Fo_isForm) (avs := [(0, f)]) (st := []) d_Cp_sentence_23 l_Cp_212 k_Fo_isForm rfl rfl rfl rfl (s_Fo_isForm mem f (by omega)) ?_
        show zS zT m_Cp_sentence (0, 0) 26 [some (2, 0), some (0, p), some (0, q), some (0, k), some (0, f), none] [(0, (zb (okF f)))] mem _
        refine zV_ifb_ne d_Cp_sentence_26 (fun c26 => ?_) (fun c26 => ?_)
        · refine zV_aload_n d_Cp_sentence_32 rfl ?_
          refine zS_getr (r := 3) d_Cp_sentence_33 f_Cp_19 rfl rfl rfl ?_
          refine zS_get d_Cp_sentence_36 f_Cp_106 rfl rfl ?_
          refine zV_if_ne d_Cp_sentence_39 (by omega) (fun c39 => ?_) (fun c39 => ?_)
          · refine zV_aload_n d_Cp_sentence_45 rfl ?_
            refine zS_getr (r := 73) d_Cp_sentence_46 f_Cp_52 rfl rfl rfl ?_
            refine zV_iload_n d_Cp_sentence_49 rfl ?_
            refine zV_iload d_Cp_sentence_50 rfl ?_
            refine zS_invvE (mt' := m_Fo_read) (avs := [(0, k), (0, f)]) (st := []) d_Cp_sentence_52 l_Cp_215 k_Fo_read rfl rfl rfl rfl rfl (s_Fo_read mem k f (by omega) (okF_r (by assumption))) ?_
            show zS zT m_Cp_sentence (0, 0) 55 [some (2, 0), some (0, p), some (0, q), some (0, k), some (0, f), none] [] (rdF mem k f) _
            refine zV_aload_n d_Cp_sentence_55 rfl ?_
            refine zV_iload_n d_Cp_sentence_56 rfl ?_
            refine zV_iload_n d_Cp_sentence_57 rfl ?_
            refine zS_invvE (mt' := m_Cp_isSo) (avs := [(0, p), (0, q)]) (st := []) d_Cp_sentence_58 l_Cp_219 k_Cp_isSo rfl rfl rfl rfl rfl (s_Cp_isSo (rdF mem k f) p q hT1 rdF_k hp hq) ?_
            show zS zT m_Cp_sentence (0, 0) 61 [some (2, 0), some (0, p), some (0, q), some (0, k), some (0, f), none] [(0, (zb (soX (rdF mem k f) p q)))] (rdF mem k f) _
            refine zV_ifb_eq d_Cp_sentence_61 (fun c61 => ?_) (fun c61 => ?_)
            · refine zV_iconst d_Cp_sentence_68 ?_
              refine zV_istore (L' := [some (2, 0), some (0, p), some (0, q), some (0, k), some (0, f), some (0, 0)]) d_Cp_sentence_69 (by decide) rfl ?_
              refine zV_aload_n d_Cp_sentence_71 rfl ?_
              refine zS_getr (r := 78) d_Cp_sentence_72 f_Cp_73 rfl rfl rfl ?_
              refine zV_iload d_Cp_sentence_75 rfl ?_
              refine zS_invvE (mt' := m_Ri_append) (avs := [(0, 0)]) (st := []) d_Cp_sentence_77 l_Cp_222 k_Ri_append rfl rfl rfl rfl rfl (s_Ri_append (rdF mem k f) 0 (by rw [e78]; exact h1) (by rw [e78]; exact h2)) ?_
              show zS zT m_Cp_sentence (0, 0) 80 [some (2, 0), some (0, p), some (0, q), some (0, k), some (0, f), some (0, 0)] [] (riA (rdF mem k f) 0) _
              refine zV_aload_n d_Cp_sentence_80 rfl ?_
              refine zV_dup d_Cp_sentence_81 (show (2 : Nat) ≠ 1 by decide) ?_
              refine zS_get d_Cp_sentence_82 f_Cp_85 rfl rfl ?_
              refine zV_iconst d_Cp_sentence_85 ?_
              refine zV_iadd d_Cp_sentence_86 ?_
              refine zS_puti d_Cp_sentence_87 f_Cp_85 rfl ⟨rfl, rfl⟩ rfl ?_
              refine zV_iload d_Cp_sentence_90 rfl ?_
              exact zS_iret d_Cp_sentence_92 rfl ⟨Nat.zero_le _, Nat.zero_le _⟩ (Or.inr (Or.inr ⟨⟨by assumption, by assumption, by assumption, by assumption⟩, by omega, by first | rw [zb_t (show soX (rdF mem k f) p q by assumption)] | rw [zb_f (show ¬ soX (rdF mem k f) p q by assumption)], by first | rw [zb_t (show soX (rdF mem k f) p q by assumption), e0] | rw [zb_f (show ¬ soX (rdF mem k f) p q by assumption), e0]⟩))
            · refine zV_iconst d_Cp_sentence_64 ?_
              refine zV_goto d_Cp_sentence_65 ?_
              refine zV_istore (L' := [some (2, 0), some (0, p), some (0, q), some (0, k), some (0, f), some (0, 1)]) d_Cp_sentence_69 (by decide) rfl ?_
              refine zV_aload_n d_Cp_sentence_71 rfl ?_
              refine zS_getr (r := 78) d_Cp_sentence_72 f_Cp_73 rfl rfl rfl ?_
              refine zV_iload d_Cp_sentence_75 rfl ?_
              refine zS_invvE (mt' := m_Ri_append) (avs := [(0, 1)]) (st := []) d_Cp_sentence_77 l_Cp_222 k_Ri_append rfl rfl rfl rfl rfl (s_Ri_append (rdF mem k f) 1 (by rw [e78]; exact h1) (by rw [e78]; exact h2)) ?_
              show zS zT m_Cp_sentence (0, 0) 80 [some (2, 0), some (0, p), some (0, q), some (0, k), some (0, f), some (0, 1)] [] (riA (rdF mem k f) 1) _
              refine zV_aload_n d_Cp_sentence_80 rfl ?_
              refine zV_dup d_Cp_sentence_81 (show (2 : Nat) ≠ 1 by decide) ?_
              refine zS_get d_Cp_sentence_82 f_Cp_85 rfl rfl ?_
              refine zV_iconst d_Cp_sentence_85 ?_
              refine zV_iadd d_Cp_sentence_86 ?_
              refine zS_puti d_Cp_sentence_87 f_Cp_85 rfl ⟨rfl, rfl⟩ rfl ?_
              refine zV_iload d_Cp_sentence_90 rfl ?_
              exact zS_iret d_Cp_sentence_92 rfl ⟨Nat.zero_le _, Nat.zero_le _⟩ (Or.inr (Or.inr ⟨⟨by assumption, by assumption, by assumption, by assumption⟩, by omega, by first | rw [zb_t (show soX (rdF mem k f) p q by assumption)] | rw [zb_f (show ¬ soX (rdF mem k f) p q by assumption)], by first | rw [zb_t (show soX (rdF mem k f) p q by assumption), e0] | rw [zb_f (show ¬ soX (rdF mem k f) p q by assumption), e0]⟩))
          · refine zV_bipush d_Cp_sentence_42 ?_
            exact zS_iret d_Cp_sentence_44 rfl ⟨Nat.zero_le _, Nat.zero_le _⟩ (Or.inr (Or.inl ⟨⟨by assumption, by assumption, by assumption, by assumption⟩, by omega, rfl, rfl⟩))
        · refine zV_bipush d_Cp_sentence_29 ?_
          exact zS_iret d_Cp_sentence_31 rfl ⟨Nat.zero_le _, Nat.zero_le _⟩ (Or.inl ⟨fun z => by first | exact absurd z.1 (by assumption) | exact absurd z.2.1 (by assumption) | exact absurd z.2.2.1 (by assumption) | exact absurd z.2.2.2 (by assumption), rfl, rfl⟩)
