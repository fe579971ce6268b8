/-! what is decided: pieces and sentences -/
theorem okT_fs {m0 m : zMem} {t : Int} (h : ∀ x, t ≤ x → x < t + 9 → m x = m0 x) (hT : okT m0 t) : okT m t := by
  unfold okT
  rw [h t (by omega) (by omega), h (t + 2) (by omega) (by omega), h (t + 3) (by omega) (by omega), h (t + 4) (by omega) (by omega)]
  exact hT
theorem hbX_fs {m0 m : zMem} {t : Int} (h : ∀ x, t ≤ x → x < t + 9 → m x = m0 x) (hB : hbX m0 t) : hbX m t := by
  unfold hbX hiB scB
  unfold hbX hiB scB at hB
  rw [h t (by omega) (by omega), h (t + 2) (by omega) (by omega), h (t + 3) (by omega) (by omega), h (t + 4) (by omega) (by omega)]
  exact hB
theorem rdF_o {mem : zMem} {p f x : Int} (h : x ≠ 73 ∧ x ≠ 74) : rdF mem p f x = mem x := by
  unfold rdF
  rw [zup_a h.2, zup_a h.2, zup_a h.2, zup_a h.2, zup_a h.1]
theorem rdF_k {mem : zMem} {p f : Int} : okFo (rdF mem p f) := by
  unfold okFo rdF
  constructor
  · rw [zup_a (by decide), zup_a (by decide), zup_a (by decide), zup_a (by decide), zup_s]
    exact zb_01 _
  · intro c q1 q2
    have h4 : c = 0 ∨ c = 1 ∨ c = 2 ∨ c = 3 := by omega
    simp only [zup_f]
    unfold uf
    rcases h4 with rfl | rfl | rfl | rfl <;> simp <;> omega
theorem okF_r {f : Int} (h : okF f) : 0 ≤ f ∧ f ≤ 6666 := by
  unfold okF at h
  omega
theorem s_Cp_pieces (mem : zMem) (k f : Int) (hk : I32 k) (hf : I32 f) (hT : okT mem 31) (hB : hbX mem 31) (hr : 0 ≤ mem 3 1 ∧ mem 3 1 ≤ 4) : zF m_Cp_pieces [(2, 0), (0, k), (0, f)] mem (fun r m => (¬ ((k = 0 ∨ k = 1) ∧ okF f) ∧ r = some (0, -102) ∧ m = mem) ∨ (((k = 0 ∨ k = 1) ∧ okF f) ∧ mem 3 1 = 0 ∧ r = some (0, -103) ∧ m = mem) ∨ (((k = 0 ∨ k = 1) ∧ okF f) ∧ mem 3 1 ≠ 0 ∧ ∃ n, r = some (0, n) ∧ NM (rdF mem k f) 31 m n)) := by
  refine zF_of (by decide) (Nat.le_of_ble_eq_true rfl) ?_
  show zS zT m_Cp_pieces (0, 0) 0 [some (2, 0), some (0, k), some (0, f)] [] mem _
  refine zV_iload_n d_Cp_pieces_0 rfl ?_
  refine zS_invsE (mt' := m_Cp_isBit) (avs := [(0, k)]) (st := []) d_Cp_pieces_1 l_Cp_209 k_Cp_isBit rfl rfl rfl rfl (s_Cp_isBit mem k (by omega)) ?_
  show zS zT m_Cp_pieces (0, 0) 4 [some (2, 0), some (0, k), some (0, f)] [(0, (zb (k = 0 ∨ k = 1)))] mem _
  refine zV_ifb_eq d_Cp_pieces_4 (fun c4 => ?_) (fun c4 => ?_)
  · refine zV_bipush d_Cp_pieces_14 ?_
    exact zS_iret d_Cp_pieces_16 rfl ⟨Nat.zero_le _, Nat.zero_le _⟩ (Or.inl ⟨fun z => by first | exact absurd z.2 (by assumption) | exact absurd z.1 (by assumption), rfl, rfl⟩)
  · refine zV_iload_n d_Cp_pieces_7 rfl ?_
    refine zS_invsE (mt' := m_Fo_isForm) (avs := [(0, f)]) (st := []) d_Cp_pieces_8 l_Cp_212 k_Fo_isForm rfl rfl rfl rfl (s_Fo_isForm mem f (by omega)) ?_
    show zS zT m_Cp_pieces (0, 0) 11 [some (2, 0), some (0, k), some (0, f)] [(0, (zb (okF f)))] mem _
    refine zV_ifb_ne d_Cp_pieces_11 (fun c11 => ?_) (fun c11 => ?_)
    · refine zV_aload_n d_Cp_pieces_17 rfl ?_
      refine zS_getr (r := 3) d_Cp_pieces_18 f_Cp_19 rfl rfl rfl ?_
      refine zS_get d_Cp_pieces_21 f_Cp_106 rfl rfl ?_
      refine zV_if_ne d_Cp_pieces_24 (by omega) (fun c24 => ?_) (fun c24 => ?_)
      · refine zV_aload_n d_Cp_pieces_30 rfl ?_
        refine zS_getr (r := 73) d_Cp_pieces_31 f_Cp_52 rfl rfl rfl ?_
        refine zV_iload_n d_Cp_pieces_34 rfl ?_
        refine zV_iload_n d_Cp_pieces_35 rfl ?_
        refine zS_invvE (mt' := m_Fo_read) (avs := [(0, k), (0, f)]) (st := []) d_Cp_pieces_36 l_Cp_215 k_Fo_read rfl rfl rfl rfl rfl (s_Fo_read mem k f (by omega) (okF_r (by assumption))) ?_
        show zS zT m_Cp_pieces (0, 0) 39 [some (2, 0), some (0, k), some (0, f)] [] (rdF mem k f) _
        refine zV_aload_n d_Cp_pieces_39 rfl ?_
        refine zS_getr (r := 75) d_Cp_pieces_40 f_Cp_59 rfl rfl rfl ?_
        refine zV_aload_n d_Cp_pieces_43 rfl ?_
        refine zS_getr (r := 31) d_Cp_pieces_44 f_Cp_42 rfl rfl rfl ?_
        refine zV_aload_n d_Cp_pieces_47 rfl ?_
        refine zS_getr (r := 73) d_Cp_pieces_48 f_Cp_52 rfl rfl rfl ?_
        refine zS_invv (mt' := m_Gr_number) (avs := [(2, 31), (2, 73)]) (st := []) d_Cp_pieces_51 l_Cp_224 k_Gr_number rfl rfl rfl rfl rfl (s_Gr_number (rdF mem k f) 31 (Or.inl rfl) (okT_fs (fun x q1 q2 => rdF_o (by omega)) hT) rdF_k (hbX_fs (fun x q1 q2 => rdF_o (by omega)) hB)) (fun r9 m9 hq9 => ?_)
        obtain ⟨n9, rfl, hq1⟩ := hq9
        show zS zT m_Cp_pieces (0, 0) 54 [some (2, 0), some (0, k), some (0, f)] [(0, n9)] m9 _
        exact zS_iret d_Cp_pieces_54 rfl ⟨Nat.zero_le _, Nat.zero_le _⟩ (Or.inr (Or.inr ⟨⟨by assumption, by assumption⟩, by omega, n9, rfl, hq1⟩))
      · refine zV_bipush d_Cp_pieces_27 ?_
        exact zS_iret d_Cp_pieces_29 rfl ⟨Nat.zero_le _, Nat.zero_le _⟩ (Or.inr (Or.inl ⟨⟨by assumption, by assumption⟩, by omega, rfl, rfl⟩))
    · refine zV_bipush d_Cp_pieces_14 ?_
      exact zS_iret d_Cp_pieces_16 rfl ⟨Nat.zero_le _, Nat.zero_le _⟩ (Or.inl ⟨fun z => by first | exact absurd z.2 (by assumption) | exact absurd z.1 (by assumption), rfl, rfl⟩)
