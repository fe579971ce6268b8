/-! stacks, built: the signs of pairs -/
def ntS (m : zMem) (t a b v : Int) : zMem := zup (zup m (t + 8) (4 * a + b) v) (t + 8) (4 * b + a) (-v)
def okC (mem : zMem) (t : Int) : Prop := (0 ≤ mem t 3 ∧ mem t 3 ≤ 4) ∧ ∀ c, 0 ≤ c → c < 4 → (-1 ≤ mem (t + 5) c ∧ mem (t + 5) c ≤ 1) ∧ (-9 ≤ mem (t + 6) c ∧ mem (t + 6) c ≤ 9) ∧ (-9 ≤ mem (t + 7) c ∧ mem (t + 7) c ≤ 9) ∧ (mem (t + 4) c = 0 ∨ mem (t + 4) c = 1)
def okG (mem : zMem) (t : Int) : Prop := ∀ x, 0 ≤ x → x < 16 → -1 ≤ mem (t + 8) x ∧ mem (t + 8) x ≤ 1
def SgW (t : Int) (m0 : zMem) (F : Int → Int → Int) (a b : Int) (m : zMem) : Prop := (∀ x, x ≠ t + 8 → m x = m0 x) ∧ (∀ o p, 0 ≤ p → p < o → o < 4 → (o < a ∨ o = a ∧ p < b) → m (t + 8) (4 * o + p) = F o p ∧ m (t + 8) (4 * p + o) = -F o p) ∧ (∀ o p, 0 ≤ p → p < o → o < 4 → ¬ (o < a ∨ o = a ∧ p < b) → m (t + 8) (4 * o + p) = m0 (t + 8) (4 * o + p)) ∧ (∀ o, 0 ≤ o → o < 4 → m (t + 8) (4 * o + o) = m0 (t + 8) (4 * o + o)) ∧ okG m t
theorem ntS_a {m : zMem} {t a b v x : Int} (h : x ≠ t + 8) : ntS m t a b v x = m x := by
  unfold ntS
  rw [zup_a h, zup_a h]
theorem ntS_v {m : zMem} {t a b v x : Int} : ntS m t a b v (t + 8) x = if x = 4 * b + a then -v else if x = 4 * a + b then v else m (t + 8) x := by
  unfold ntS
  rw [zup_f, zup_f]
  rfl
theorem SgW_st {t : Int} {m0 m : zMem} {F : Int → Int → Int} {a b v : Int} (h : SgW t m0 F a b m) (hb : 0 ≤ b ∧ b < a ∧ a < 4) (hv : F a b = v) (hr : -1 ≤ v ∧ v ≤ 1) : SgW t m0 F a (b + 1) (ntS m t a b v) := by
  obtain ⟨h1, h2, h3, h4, h5⟩ := h
  refine ⟨fun x hx => by rw [ntS_a hx]; exact h1 x hx, fun o p q1 q2 q3 q4 => ?_, fun o p q1 q2 q3 q4 => ?_, fun o q1 q2 => ?_, fun x q1 q2 => ?_⟩
  · rw [ntS_v, ntS_v]
    by_cases e : o = a ∧ p = b
    · obtain ⟨rfl, rfl⟩ := e
      rw [if_neg (by omega), if_pos rfl, if_pos rfl, hv]
      exact ⟨rfl, rfl⟩
    · rw [if_neg (by omega), if_neg (by omega), if_neg (by omega), if_neg (by omega)]
      exact h2 o p q1 q2 q3 (by omega)
  · rw [ntS_v, if_neg (by omega), if_neg (by omega)]
    exact h3 o p q1 q2 q3 (by omega)
  · rw [ntS_v, if_neg (by omega), if_neg (by omega)]
    exact h4 o q1 q2
  · rw [ntS_v]
    have := h5 x q1 q2
    split
    · omega
    · split <;> omega
theorem SgW_up {t : Int} {m0 m : zMem} {F : Int → Int → Int} {a b : Int} (h : SgW t m0 F a b m) (hb : a ≤ b) : SgW t m0 F (a + 1) 0 m := by
  obtain ⟨h1, h2, h3, h4, h5⟩ := h
  exact ⟨h1, fun o p q1 q2 q3 q4 => h2 o p q1 q2 q3 (by omega), fun o p q1 q2 q3 q4 => h3 o p q1 q2 q3 (by omega), h4, h5⟩
theorem SgW_0 {t : Int} {m0 : zMem} {F : Int → Int → Int} (h : okG m0 t) : SgW t m0 F 0 0 m0 := ⟨fun _ _ => rfl, fun o p q1 q2 q3 q4 => by omega, fun _ _ _ _ _ _ => rfl, fun _ _ _ => rfl, h⟩
theorem sgP_3 (p : Pt) (a b c : Int) : sgP p a b c = -1 ∨ sgP p a b c = 0 ∨ sgP p a b c = 1 := sg3_3 _ _ _
theorem ro_ne {t x : Int} (h : isSt t) (hx : zkd zSH x = (6, 0)) : x ≠ t + 8 := by
  intro e
  rw [e, kSt8 h] at hx
  exact absurd hx (by decide)
def farL (mem : zMem) (t o p : Int) : Int := if cmpI (mem (t + 5) o) (mem (t + 5) p) = 0 then (if cmpI (mem (t + 6) p) (mem (t + 6) o) = 0 then cmpI (mem (t + 7) o) (mem (t + 7) p) else cmpI (mem (t + 6) p) (mem (t + 6) o)) else cmpI (mem (t + 5) o) (mem (t + 5) p)
def stpF (mem : zMem) (t x o p : Int) : Int := sgP (rP mem x) (mem (t + 5) o - mem (t + 5) p) (mem (t + 6) o - mem (t + 6) p) (mem (t + 7) o - mem (t + 7) p)
def goF (mem : zMem) (t x o p : Int) : Int := if mem (t + 8) (4 * o + p) = 0 then (if sgP (rP mem x) 0 (2 * (mem (t + 5) o - mem (t + 5) p)) (mem (t + 6) o - mem (t + 6) p) = 0 then cmpI (mem (t + 5) o - mem (t + 5) p) 0 else sgP (rP mem x) 0 (2 * (mem (t + 5) o - mem (t + 5) p)) (mem (t + 6) o - mem (t + 6) p)) else mem (t + 8) (4 * o + p)
theorem s_St_note (mem : zMem) (t a b v : Int) (h : isSt t) (ha : 0 ≤ a ∧ a < 4) (hb : 0 ≤ b ∧ b < 4) : zF m_St_note [(2, t), (0, a), (0, b), (0, v)] mem (fun r m => r = none ∧ m = ntS mem t a b v) := by
  refine zF_of (by decide) (Nat.le_of_ble_eq_true rfl) ?_
  show zS zT m_St_note (0, 0) 0 [some (2, t), some (0, a), some (0, b), some (0, v)] [] mem _
  refine zV_aload_n d_St_note_0 rfl ?_
  refine zS_getr (r := (t + 8)) d_St_note_1 f_St_47 (kSt0 h) rfl rfl ?_
  refine zV_iconst d_St_note_4 ?_
  refine zV_iload_n d_St_note_5 rfl ?_
  refine zV_imul d_St_note_6 ?_
  refine zV_iload_n d_St_note_7 rfl ?_
  refine zV_iadd d_St_note_8 ?_
  refine zV_iload_n d_St_note_9 rfl ?_
  refine zS_iast d_St_note_10 (kSt8 h) rfl ⟨by omega, by omega⟩ ?_
  refine zV_aload_n d_St_note_11 rfl ?_
  refine zS_getr (r := (t + 8)) d_St_note_12 f_St_47 (kSt0 h) rfl rfl ?_
  refine zV_iconst d_St_note_15 ?_
  refine zV_iload_n d_St_note_16 rfl ?_
  refine zV_imul d_St_note_17 ?_
  refine zV_iload_n d_St_note_18 rfl ?_
  refine zV_iadd d_St_note_19 ?_
  refine zV_iload_n d_St_note_20 rfl ?_
  refine zV_ineg d_St_note_21 ?_
  refine zS_iast d_St_note_22 (kSt8 h) rfl ⟨by omega, by omega⟩ ?_
  exact zS_vret d_St_note_23 rfl ⟨Nat.zero_le _, Nat.zero_le _⟩ ⟨rfl, rfl⟩
theorem s_St_comeFromFarLeft_12 (mem : zMem) (t : Int) (h : isSt t) (hC : okC mem t) (hS : okG mem t) (a : Int) (ha : 0 ≤ a ∧ a < mem t 3) (kk : ∀ m, SgW t mem (farL mem t) (a + 1) 0 m → zS zT m_St_comeFromFarLeft (0, 0) 86 [some (2, t), some (0, a), none, none] [] m (zQs (fun r m => r = none ∧ SgW t mem (farL mem t) (mem t 3) 0 m))) : ∀ (b : Int) (m : zMem), (0 ≤ b ∧ b ≤ a) → (SgW t mem (farL mem t) a b m) → zS zT m_St_comeFromFarLeft (0, 0) 12 [some (2, t), some (0, a), some (0, b), none] [] m (zQs (fun r m => r = none ∧ SgW t mem (farL mem t) (mem t 3) 0 m)) := by
  intro b m
  obtain ⟨k9, hk9⟩ : ∃ kq : Nat, (a - b).toNat = kq := ⟨_, rfl⟩
  induction k9 using Nat.strongRecOn generalizing b m with
  | _ k9 ih =>
    intro i0 i1
    obtain ⟨c1, c2⟩ := id hC
    have e3 : m t 3 = mem t 3 := by rw [i1.1 t (by omega)]
    have e5 : m (t + 5) = mem (t + 5) := i1.1 _ (by omega)
    have e6 : m (t + 6) = mem (t + 6) := i1.1 _ (by omega)
    have e7 : m (t + 7) = mem (t + 7) := i1.1 _ (by omega)
    have ga := c2 a ha.1 (by omega)
    have gb := c2 b i0.1 (by omega)
    have e5a := congrFun e5 a
    have e5b := congrFun e5 b
    have e6a := congrFun e6 a
    have e6b := congrFun e6 b
    have e7a := congrFun e7 a
    have e7b := congrFun e7 b
    have g8 := i1.2.2.2.2 (4 * a + b) (by omega) (by omega)
    refine zV_iload_n d_St_comeFromFarLeft_12 rfl ?_
    refine zV_iload_n d_St_comeFromFarLeft_13 rfl ?_
    refine zV_icmp_ge d_St_comeFromFarLeft_14 (by omega) (by omega) (fun c14 => ?_) (fun c14 => ?_)
    · refine zV_forget (L' := [some (2, t), some (0, a), none, none]) (by simp [zle]) ?_
      exact kk m (SgW_up i1 (by omega))
    · refine zV_aload_n d_St_comeFromFarLeft_17 rfl ?_
      refine zS_getr (r := (t + 5)) d_St_comeFromFarLeft_18 f_St_38 (kSt0 h) rfl rfl ?_
      refine zV_iload_n d_St_comeFromFarLeft_21 rfl ?_
      refine zS_iald d_St_comeFromFarLeft_22 (kSt5 h) rfl ⟨by omega, by omega⟩ ?_
      refine zV_aload_n d_St_comeFromFarLeft_23 rfl ?_
      refine zS_getr (r := (t + 5)) d_St_comeFromFarLeft_24 f_St_38 (kSt0 h) rfl rfl ?_
      refine zV_iload_n d_St_comeFromFarLeft_27 rfl ?_
      refine zS_iald d_St_comeFromFarLeft_28 (kSt5 h) rfl ⟨by omega, by omega⟩ ?_
      refine zS_invsE (mt' := m_In_compare) (avs := [(0, (m (t + 5) a)), (0, (m (t + 5) b))]) (st := []) d_St_comeFromFarLeft_29 l_St_125 k_In_compare rfl rfl rfl rfl (s_In_compare m (m (t + 5) a) (m (t + 5) b) (by omega) (by omega)) ?_
      show zS zT m_St_comeFromFarLeft (0, 0) 32 [some (2, t), some (0, a), some (0, b), none] [(0, (cmpI (m (t + 5) a) (m (t + 5) b)))] m _
      refine zV_istore_n (L' := [some (2, t), some (0, a), some (0, b), some (0, (cmpI (m (t + 5) a) (m (t + 5) b)))]) d_St_comeFromFarLeft_32 (by decide) rfl ?_
      refine zV_iload_n d_St_comeFromFarLeft_33 rfl ?_
      refine zV_if_ne d_St_comeFromFarLeft_34 (cmpI_i _ _) (fun c34 => ?_) (fun c34 => ?_)
      · refine zV_iload_n d_St_comeFromFarLeft_53 rfl ?_
        refine zV_if_ne d_St_comeFromFarLeft_54 (cmpI_i _ _) (fun c54 => ?_) (fun c54 => ?_)
        · refine zV_aload_n d_St_comeFromFarLeft_73 rfl ?_
          refine zV_iload_n d_St_comeFromFarLeft_74 rfl ?_
          refine zV_iload_n d_St_comeFromFarLeft_75 rfl ?_
          refine zV_iload_n d_St_comeFromFarLeft_76 rfl ?_
          refine zS_invvE (mt' := m_St_note) (avs := [(0, a), (0, b), (0, (cmpI (m (t + 5) a) (m (t + 5) b)))]) (st := []) d_St_comeFromFarLeft_77 l_St_131 k_St_note (kSt0 h) rfl rfl rfl rfl (s_St_note m t a b (cmpI (m (t + 5) a) (m (t + 5) b)) h (by omega) (by omega)) ?_
          show zS zT m_St_comeFromFarLeft (0, 0) 80 [some (2, t), some (0, a), some (0, b), some (0, (cmpI (m (t + 5) a) (m (t + 5) b)))] [] (ntS m t a b (cmpI (m (t + 5) a) (m (t + 5) b))) _
          refine zV_iinc (L' := [some (2, t), some (0, a), some (0, (b + 1)), some (0, (cmpI (m (t + 5) a) (m (t + 5) b)))]) d_St_comeFromFarLeft_80 (by decide) rfl rfl ?_
          refine zV_goto d_St_comeFromFarLeft_83 ?_
          refine zV_forget (L' := [some (2, t), some (0, a), some (0, (b + 1)), none]) (by simp [zle]) ?_
          refine ih _ (by omega) (b + 1) _ rfl (by omega) (SgW_st i1 ⟨by omega, by omega, by omega⟩ ?_ ?_)
          · unfold farL
            rw [← e5, ← e6, ← e7]
            (repeat' split) <;> first | rfl | omega
          · exact cmpI_r _ _
        · refine zV_aload_n d_St_comeFromFarLeft_57 rfl ?_
          refine zS_getr (r := (t + 7)) d_St_comeFromFarLeft_58 f_St_44 (kSt0 h) rfl rfl ?_
          refine zV_iload_n d_St_comeFromFarLeft_61 rfl ?_
          refine zS_iald d_St_comeFromFarLeft_62 (kSt7 h) rfl ⟨by omega, by omega⟩ ?_
          refine zV_aload_n d_St_comeFromFarLeft_63 rfl ?_
          refine zS_getr (r := (t + 7)) d_St_comeFromFarLeft_64 f_St_44 (kSt0 h) rfl rfl ?_
          refine zV_iload_n d_St_comeFromFarLeft_67 rfl ?_
          refine zS_iald d_St_comeFromFarLeft_68 (kSt7 h) rfl ⟨by omega, by omega⟩ ?_
          refine zS_invsE (mt' := m_In_compare) (avs := [(0, (m (t + 7) a)), (0, (m (t + 7) b))]) (st := []) d_St_comeFromFarLeft_69 l_St_125 k_In_compare rfl rfl rfl rfl (s_In_compare m (m (t + 7) a) (m (t + 7) b) (by omega) (by omega)) ?_
          show zS zT m_St_comeFromFarLeft (0, 0) 72 [some (2, t), some (0, a), some (0, b), some (0, (cmpI (m (t + 5) a) (m (t + 5) b)))] [(0, (cmpI (m (t + 7) a) (m (t + 7) b)))] m _
          refine zV_istore_n (L' := [some (2, t), some (0, a), some (0, b), some (0, (cmpI (m (t + 7) a) (m (t + 7) b)))]) d_St_comeFromFarLeft_72 (by decide) rfl ?_
          refine zV_aload_n d_St_comeFromFarLeft_73 rfl ?_
          refine zV_iload_n d_St_comeFromFarLeft_74 rfl ?_
          refine zV_iload_n d_St_comeFromFarLeft_75 rfl ?_
          refine zV_iload_n d_St_comeFromFarLeft_76 rfl ?_
          refine zS_invvE (mt' := m_St_note) (avs := [(0, a), (0, b), (0, (cmpI (m (t + 7) a) (m (t + 7) b)))]) (st := []) d_St_comeFromFarLeft_77 l_St_131 k_St_note (kSt0 h) rfl rfl rfl rfl (s_St_note m t a b (cmpI (m (t + 7) a) (m (t + 7) b)) h (by omega) (by omega)) ?_
          show zS zT m_St_comeFromFarLeft (0, 0) 80 [some (2, t), some (0, a), some (0, b), some (0, (cmpI (m (t + 7) a) (m (t + 7) b)))] [] (ntS m t a b (cmpI (m (t + 7) a) (m (t + 7) b))) _
          refine zV_iinc (L' := [some (2, t), some (0, a), some (0, (b + 1)), some (0, (cmpI (m (t + 7) a) (m (t + 7) b)))]) d_St_comeFromFarLeft_80 (by decide) rfl rfl ?_
          refine zV_goto d_St_comeFromFarLeft_83 ?_
          refine zV_forget (L' := [some (2, t), some (0, a), some (0, (b + 1)), none]) (by simp [zle]) ?_
          refine ih _ (by omega) (b + 1) _ rfl (by omega) (SgW_st i1 ⟨by omega, by omega, by omega⟩ ?_ ?_)
          · unfold farL
            rw [← e5, ← e6, ← e7]
            (repeat' split) <;> first | rfl | omega
          · exact cmpI_r _ _
      · refine zV_aload_n d_St_comeFromFarLeft_37 rfl ?_
        refine zS_getr (r := (t + 6)) d_St_comeFromFarLeft_38 f_St_41 (kSt0 h) rfl rfl ?_
        refine zV_iload_n d_St_comeFromFarLeft_41 rfl ?_
        refine zS_iald d_St_comeFromFarLeft_42 (kSt6 h) rfl ⟨by omega, by omega⟩ ?_
        refine zV_aload_n d_St_comeFromFarLeft_43 rfl ?_
        refine zS_getr (r := (t + 6)) d_St_comeFromFarLeft_44 f_St_41 (kSt0 h) rfl rfl ?_
        refine zV_iload_n d_St_comeFromFarLeft_47 rfl ?_
        refine zS_iald d_St_comeFromFarLeft_48 (kSt6 h) rfl ⟨by omega, by omega⟩ ?_
        refine zS_invsE (mt' := m_In_compare) (avs := [(0, (m (t + 6) b)), (0, (m (t + 6) a))]) (st := []) d_St_comeFromFarLeft_49 l_St_125 k_In_compare rfl rfl rfl rfl (s_In_compare m (m (t + 6) b) (m (t + 6) a) (by omega) (by omega)) ?_
        show zS zT m_St_comeFromFarLeft (0, 0) 52 [some (2, t), some (0, a), some (0, b), some (0, (cmpI (m (t + 5) a) (m (t + 5) b)))] [(0, (cmpI (m (t + 6) b) (m (t + 6) a)))] m _
        refine zV_istore_n (L' := [some (2, t), some (0, a), some (0, b), some (0, (cmpI (m (t + 6) b) (m (t + 6) a)))]) d_St_comeFromFarLeft_52 (by decide) rfl ?_
        refine zV_iload_n d_St_comeFromFarLeft_53 rfl ?_
        refine zV_if_ne d_St_comeFromFarLeft_54 (cmpI_i _ _) (fun c54 => ?_) (fun c54 => ?_)
        · refine zV_aload_n d_St_comeFromFarLeft_73 rfl ?_
          refine zV_iload_n d_St_comeFromFarLeft_74 rfl ?_
          refine zV_iload_n d_St_comeFromFarLeft_75 rfl ?_
          refine zV_iload_n d_St_comeFromFarLeft_76 rfl ?_
          refine zS_invvE (mt' := m_St_note) (avs := [(0, a), (0, b), (0, (cmpI (m (t + 6) b) (m (t + 6) a)))]) (st := []) d_St_comeFromFarLeft_77 l_St_131 k_St_note (kSt0 h) rfl rfl rfl rfl (s_St_note m t a b (cmpI (m (t + 6) b) (m (t + 6) a)) h (by omega) (by omega)) ?_
          show zS zT m_St_comeFromFarLeft (0, 0) 80 [some (2, t), some (0, a), some (0, b), some (0, (cmpI (m (t + 6) b) (m (t + 6) a)))] [] (ntS m t a b (cmpI (m (t + 6) b) (m (t + 6) a))) _
          refine zV_iinc (L' := [some (2, t), some (0, a), some (0, (b + 1)), some (0, (cmpI (m (t + 6) b) (m (t + 6) a)))]) d_St_comeFromFarLeft_80 (by decide) rfl rfl ?_
          refine zV_goto d_St_comeFromFarLeft_83 ?_
          refine zV_forget (L' := [some (2, t), some (0, a), some (0, (b + 1)), none]) (by simp [zle]) ?_
          refine ih _ (by omega) (b + 1) _ rfl (by omega) (SgW_st i1 ⟨by omega, by omega, by omega⟩ ?_ ?_)
          · unfold farL
            rw [← e5, ← e6, ← e7]
            (repeat' split) <;> first | rfl | omega
          · exact cmpI_r _ _
        · refine zV_aload_n d_St_comeFromFarLeft_57 rfl ?_
          refine zS_getr (r := (t + 7)) d_St_comeFromFarLeft_58 f_St_44 (kSt0 h) rfl rfl ?_
          refine zV_iload_n d_St_comeFromFarLeft_61 rfl ?_
          refine zS_iald d_St_comeFromFarLeft_62 (kSt7 h) rfl ⟨by omega, by omega⟩ ?_
          refine zV_aload_n d_St_comeFromFarLeft_63 rfl ?_
          refine zS_getr (r := (t + 7)) d_St_comeFromFarLeft_64 f_St_44 (kSt0 h) rfl rfl ?_
          refine zV_iload_n d_St_comeFromFarLeft_67 rfl ?_
          refine zS_iald d_St_comeFromFarLeft_68 (kSt7 h) rfl ⟨by omega, by omega⟩ ?_
          refine zS_invsE (mt' := m_In_compare) (avs := [(0, (m (t + 7) a)), (0, (m (t + 7) b))]) (st := []) d_St_comeFromFarLeft_69 l_St_125 k_In_compare rfl rfl rfl rfl (s_In_compare m (m (t + 7) a) (m (t + 7) b) (by omega) (by omega)) ?_
          show zS zT m_St_comeFromFarLeft (0, 0) 72 [some (2, t), some (0, a), some (0, b), some (0, (cmpI (m (t + 6) b) (m (t + 6) a)))] [(0, (cmpI (m (t + 7) a) (m (t + 7) b)))] m _
          refine zV_istore_n (L' := [some (2, t), some (0, a), some (0, b), some (0, (cmpI (m (t + 7) a) (m (t + 7) b)))]) d_St_comeFromFarLeft_72 (by decide) rfl ?_
          refine zV_aload_n d_St_comeFromFarLeft_73 rfl ?_
          refine zV_iload_n d_St_comeFromFarLeft_74 rfl ?_
          refine zV_iload_n d_St_comeFromFarLeft_75 rfl ?_
          refine zV_iload_n d_St_comeFromFarLeft_76 rfl ?_
          refine zS_invvE (mt' := m_St_note) (avs := [(0, a), (0, b), (0, (cmpI (m (t + 7) a) (m (t + 7) b)))]) (st := []) d_St_comeFromFarLeft_77 l_St_131 k_St_note (kSt0 h) rfl rfl rfl rfl (s_St_note m t a b (cmpI (m (t + 7) a) (m (t + 7) b)) h (by omega) (by omega)) ?_
          show zS zT m_St_comeFromFarLeft (0, 0) 80 [some (2, t), some (0, a), some (0, b), some (0, (cmpI (m (t + 7) a) (m (t + 7) b)))] [] (ntS m t a b (cmpI (m (t + 7) a) (m (t + 7) b))) _
          refine zV_iinc (L' := [some (2, t), some (0, a), some (0, (b + 1)), some (0, (cmpI (m (t + 7) a) (m (t + 7) b)))]) d_St_comeFromFarLeft_80 (by decide) rfl rfl ?_
          refine zV_goto d_St_comeFromFarLeft_83 ?_
          refine zV_forget (L' := [some (2, t), some (0, a), some (0, (b + 1)), none]) (by simp [zle]) ?_
          refine ih _ (by omega) (b + 1) _ rfl (by omega) (SgW_st i1 ⟨by omega, by omega, by omega⟩ ?_ ?_)
          · unfold farL
            rw [← e5, ← e6, ← e7]
            (repeat' split) <;> first | rfl | omega
          · exact cmpI_r _ _
theorem s_St_comeFromFarLeft_x (m : zMem) (t a : Int) (ha : 0 ≤ a ∧ a < 4) (Q9 : zQ2) (kk : zS zT m_St_comeFromFarLeft (0, 0) 2 [some (2, t), some (0, (a + 1)), none, none] [] m (zQs Q9)) : zS zT m_St_comeFromFarLeft (0, 0) 86 [some (2, t), some (0, a), none, none] [] m (zQs Q9) := by
  refine zV_iinc (L' := [some (2, t), some (0, (a + 1)), none, none]) d_St_comeFromFarLeft_86 (by decide) rfl rfl ?_
  refine zV_goto d_St_comeFromFarLeft_89 ?_
  exact kk
theorem s_St_comeFromFarLeft_2 (mem : zMem) (t : Int) (h : isSt t) (hC : okC mem t) (hS : okG mem t) : ∀ (a : Int) (m : zMem), (0 ≤ a ∧ a ≤ mem t 3) → (SgW t mem (farL mem t) a 0 m) → zS zT m_St_comeFromFarLeft (0, 0) 2 [some (2, t), some (0, a), none, none] [] m (zQs (fun r m => r = none ∧ SgW t mem (farL mem t) (mem t 3) 0 m)) := by
  intro a m
  obtain ⟨k9, hk9⟩ : ∃ kq : Nat, (mem t 3 - a).toNat = kq := ⟨_, rfl⟩
  induction k9 using Nat.strongRecOn generalizing a m with
  | _ k9 ih =>
    intro i0 i1
    obtain ⟨c1, c2⟩ := id hC
    have e3 : m t 3 = mem t 3 := by rw [i1.1 t (by omega)]
    refine zV_iload_n d_St_comeFromFarLeft_2 rfl ?_
    refine zV_aload_n d_St_comeFromFarLeft_3 rfl ?_
    refine zS_get d_St_comeFromFarLeft_4 f_St_24 (kSt0 h) rfl ?_
    refine zV_icmp_ge d_St_comeFromFarLeft_7 (by omega) (by omega) (fun c7 => ?_) (fun c7 => ?_)
    · exact zS_vret d_St_comeFromFarLeft_92 rfl ⟨Nat.zero_le _, Nat.zero_le _⟩ ⟨rfl, by rw [show mem t 3 = a by omega]; exact i1⟩
    · refine zV_iconst d_St_comeFromFarLeft_10 ?_
      refine zV_istore_n (L' := [some (2, t), some (0, a), some (0, 0), none]) d_St_comeFromFarLeft_11 (by decide) rfl ?_
      refine s_St_comeFromFarLeft_12 mem t h hC hS a ⟨i0.1, by omega⟩ (fun m1 p1 => ?_) 0 m ⟨by omega, i0.1⟩ i1
      exact s_St_comeFromFarLeft_x m1 t a (by omega) _ (ih _ (by omega) (a + 1) m1 rfl ⟨by omega, by omega⟩ p1)
theorem s_St_comeFromFarLeft (mem : zMem) (t : Int) (h : isSt t) (hC : okC mem t) (hS : okG mem t) : zF m_St_comeFromFarLeft [(2, t)] mem (fun r m => r = none ∧ SgW t mem (farL mem t) (mem t 3) 0 m) := by
  refine zF_of (by decide) (Nat.le_of_ble_eq_true rfl) ?_
  show zS zT m_St_comeFromFarLeft (0, 0) 0 [some (2, t), none, none, none] [] mem _
  refine zV_iconst d_St_comeFromFarLeft_0 ?_
  refine zV_istore_n (L' := [some (2, t), some (0, 0), none, none]) d_St_comeFromFarLeft_1 (by decide) rfl ?_
  exact s_St_comeFromFarLeft_2 mem t h hC hS 0 mem ⟨by omega, hC.1.1⟩ (SgW_0 hS)
theorem s_St_stopAt_12 (mem : zMem) (t : Int) (h : isSt t) (hC : okC mem t) (hS : okG mem t) (x : Int) (hx : zkd zSH x = (6, 0)) (hx2 : okP (rP mem x)) (a : Int) (ha : 0 ≤ a ∧ a < mem t 3) (kk : ∀ m, SgW t mem (stpF mem t x) (a + 1) 0 m → zS zT m_St_stopAt (0, 0) 75 [some (2, t), some (2, x), some (0, a), none] [] m (zQs (fun r m => r = none ∧ SgW t mem (stpF mem t x) (mem t 3) 0 m))) : ∀ (b : Int) (m : zMem), (0 ≤ b ∧ b ≤ a) → (SgW t mem (stpF mem t x) a b m) → zS zT m_St_stopAt (0, 0) 12 [some (2, t), some (2, x), some (0, a), some (0, b)] [] m (zQs (fun r m => r = none ∧ SgW t mem (stpF mem t x) (mem t 3) 0 m)) := by
  intro b m
  obtain ⟨k9, hk9⟩ : ∃ kq : Nat, (a - b).toNat = kq := ⟨_, rfl⟩
  induction k9 using Nat.strongRecOn generalizing b m with
  | _ k9 ih =>
    intro i0 i1
    obtain ⟨c1, c2⟩ := id hC
    have e3 : m t 3 = mem t 3 := by rw [i1.1 t (by omega)]
    have e5 : m (t + 5) = mem (t + 5) := i1.1 _ (by omega)
    have e6 : m (t + 6) = mem (t + 6) := i1.1 _ (by omega)
    have e7 : m (t + 7) = mem (t + 7) := i1.1 _ (by omega)
    have ePx : rP m x = rP mem x := by unfold rP; rw [i1.1 x (ro_ne h hx)]
    have ga := c2 a ha.1 (by omega)
    have gb := c2 b i0.1 (by omega)
    have e5a := congrFun e5 a
    have e5b := congrFun e5 b
    have e6a := congrFun e6 a
    have e6b := congrFun e6 b
    have e7a := congrFun e7 a
    have e7b := congrFun e7 b
    have g8 := i1.2.2.2.2 (4 * a + b) (by omega) (by omega)
    refine zV_iload_n d_St_stopAt_12 rfl ?_
    refine zV_iload_n d_St_stopAt_13 rfl ?_
    refine zV_icmp_ge d_St_stopAt_14 (by omega) (by omega) (fun c14 => ?_) (fun c14 => ?_)
    · refine zV_forget (L' := [some (2, t), some (2, x), some (0, a), none]) (by simp [zle]) ?_
      exact kk m (SgW_up i1 (by omega))
    · refine zV_aload_n d_St_stopAt_17 rfl ?_
      refine zV_iload_n d_St_stopAt_18 rfl ?_
      refine zV_iload_n d_St_stopAt_19 rfl ?_
      refine zV_aload_n d_St_stopAt_20 rfl ?_
      refine zV_aload_n d_St_stopAt_21 rfl ?_
      refine zS_getr (r := (t + 5)) d_St_stopAt_22 f_St_38 (kSt0 h) rfl rfl ?_
      refine zV_iload_n d_St_stopAt_25 rfl ?_
      refine zS_iald d_St_stopAt_26 (kSt5 h) rfl ⟨by omega, by omega⟩ ?_
      refine zV_aload_n d_St_stopAt_27 rfl ?_
      refine zS_getr (r := (t + 5)) d_St_stopAt_28 f_St_38 (kSt0 h) rfl rfl ?_
      refine zV_iload_n d_St_stopAt_31 rfl ?_
      refine zS_iald d_St_stopAt_32 (kSt5 h) rfl ⟨by omega, by omega⟩ ?_
      refine zV_isub d_St_stopAt_33 ?_
      refine zV_i2l d_St_stopAt_34 (by omega) ?_
      refine zV_aload_n d_St_stopAt_35 rfl ?_
      refine zS_getr (r := (t + 6)) d_St_stopAt_36 f_St_41 (kSt0 h) rfl rfl ?_
      refine zV_iload_n d_St_stopAt_39 rfl ?_
      refine zS_iald d_St_stopAt_40 (kSt6 h) rfl ⟨by omega, by omega⟩ ?_
      refine zV_aload_n d_St_stopAt_41 rfl ?_
      refine zS_getr (r := (t + 6)) d_St_stopAt_42 f_St_41 (kSt0 h) rfl rfl ?_
      refine zV_iload_n d_St_stopAt_45 rfl ?_
      refine zS_iald d_St_stopAt_46 (kSt6 h) rfl ⟨by omega, by omega⟩ ?_
      refine zV_isub d_St_stopAt_47 ?_
      refine zV_i2l d_St_stopAt_48 (by omega) ?_
      refine zV_aload_n d_St_stopAt_49 rfl ?_
      refine zS_getr (r := (t + 7)) d_St_stopAt_50 f_St_44 (kSt0 h) rfl rfl ?_
      refine zV_iload_n d_St_stopAt_53 rfl ?_
      refine zS_iald d_St_stopAt_54 (kSt7 h) rfl ⟨by omega, by omega⟩ ?_
      refine zV_aload_n d_St_stopAt_55 rfl ?_
      refine zS_getr (r := (t + 7)) d_St_stopAt_56 f_St_44 (kSt0 h) rfl rfl ?_
      refine zV_iload_n d_St_stopAt_59 rfl ?_
      refine zS_iald d_St_stopAt_60 (kSt7 h) rfl ⟨by omega, by omega⟩ ?_
      refine zV_isub d_St_stopAt_61 ?_
      refine zV_i2l d_St_stopAt_62 (by omega) ?_
      refine zS_invvE (mt' := m_Ro_signOf) (avs := [(1, ((m (t + 5) a) - (m (t + 5) b))), (1, ((m (t + 6) a) - (m (t + 6) b))), (1, ((m (t + 7) a) - (m (t + 7) b)))]) (st := [(0, b), (0, a), (2, t)]) d_St_stopAt_63 l_St_135 k_Ro_signOf hx rfl rfl rfl rfl (s_Ro_signOf m x ((m (t + 5) a) - (m (t + 5) b)) ((m (t + 6) a) - (m (t + 6) b)) ((m (t + 7) a) - (m (t + 7) b)) hx (by rw [ePx]; exact hx2) (by omega) (by omega) (by omega)) ?_
      show zS zT m_St_stopAt (0, 0) 66 [some (2, t), some (2, x), some (0, a), some (0, b)] [(0, (sgP (rP m x) ((m (t + 5) a) - (m (t + 5) b)) ((m (t + 6) a) - (m (t + 6) b)) ((m (t + 7) a) - (m (t + 7) b)))), (0, b), (0, a), (2, t)] m _
      refine zS_invvE (mt' := m_St_note) (avs := [(0, a), (0, b), (0, (sgP (rP m x) ((m (t + 5) a) - (m (t + 5) b)) ((m (t + 6) a) - (m (t + 6) b)) ((m (t + 7) a) - (m (t + 7) b))))]) (st := []) d_St_stopAt_66 l_St_131 k_St_note (kSt0 h) rfl rfl rfl rfl (s_St_note m t a b (sgP (rP m x) ((m (t + 5) a) - (m (t + 5) b)) ((m (t + 6) a) - (m (t + 6) b)) ((m (t + 7) a) - (m (t + 7) b))) h (by omega) (by omega)) ?_
      show zS zT m_St_stopAt (0, 0) 69 [some (2, t), some (2, x), some (0, a), some (0, b)] [] (ntS m t a b (sgP (rP m x) ((m (t + 5) a) - (m (t + 5) b)) ((m (t + 6) a) - (m (t + 6) b)) ((m (t + 7) a) - (m (t + 7) b)))) _
      refine zV_iinc (L' := [some (2, t), some (2, x), some (0, a), some (0, (b + 1))]) d_St_stopAt_69 (by decide) rfl rfl ?_
      refine zV_goto d_St_stopAt_72 ?_
      refine zV_forget (L' := [some (2, t), some (2, x), some (0, a), some (0, (b + 1))]) (by simp [zle]) ?_
      refine ih _ (by omega) (b + 1) _ rfl (by omega) (SgW_st i1 ⟨by omega, by omega, by omega⟩ ?_ ?_)
      · unfold stpF
        rw [← e5, ← e6, ← e7, ← ePx]
      · have := sgP_3 (rP m x) (m (t + 5) a - m (t + 5) b) (m (t + 6) a - m (t + 6) b) (m (t + 7) a - m (t + 7) b)
        omega
theorem s_St_stopAt_x (m : zMem) (t a x : Int) (ha : 0 ≤ a ∧ a < 4) (Q9 : zQ2) (kk : zS zT m_St_stopAt (0, 0) 2 [some (2, t), some (2, x), some (0, (a + 1)), none] [] m (zQs Q9)) : zS zT m_St_stopAt (0, 0) 75 [some (2, t), some (2, x), some (0, a), none] [] m (zQs Q9) := by
  refine zV_iinc (L' := [some (2, t), some (2, x), some (0, (a + 1)), none]) d_St_stopAt_75 (by decide) rfl rfl ?_
  refine zV_goto d_St_stopAt_78 ?_
  exact kk
theorem s_St_stopAt_2 (mem : zMem) (t : Int) (h : isSt t) (hC : okC mem t) (hS : okG mem t) (x : Int) (hx : zkd zSH x = (6, 0)) (hx2 : okP (rP mem x)) : ∀ (a : Int) (m : zMem), (0 ≤ a ∧ a ≤ mem t 3) → (SgW t mem (stpF mem t x) a 0 m) → zS zT m_St_stopAt (0, 0) 2 [some (2, t), some (2, x), some (0, a), none] [] m (zQs (fun r m => r = none ∧ SgW t mem (stpF mem t x) (mem t 3) 0 m)) := by
  intro a m
  obtain ⟨k9, hk9⟩ : ∃ kq : Nat, (mem t 3 - a).toNat = kq := ⟨_, rfl⟩
  induction k9 using Nat.strongRecOn generalizing a m with
  | _ k9 ih =>
    intro i0 i1
    obtain ⟨c1, c2⟩ := id hC
    have e3 : m t 3 = mem t 3 := by rw [i1.1 t (by omega)]
    refine zV_iload_n d_St_stopAt_2 rfl ?_
    refine zV_aload_n d_St_stopAt_3 rfl ?_
    refine zS_get d_St_stopAt_4 f_St_24 (kSt0 h) rfl ?_
    refine zV_icmp_ge d_St_stopAt_7 (by omega) (by omega) (fun c7 => ?_) (fun c7 => ?_)
    · exact zS_vret d_St_stopAt_81 rfl ⟨Nat.zero_le _, Nat.zero_le _⟩ ⟨rfl, by rw [show mem t 3 = a by omega]; exact i1⟩
    · refine zV_iconst d_St_stopAt_10 ?_
      refine zV_istore_n (L' := [some (2, t), some (2, x), some (0, a), some (0, 0)]) d_St_stopAt_11 (by decide) rfl ?_
      refine s_St_stopAt_12 mem t h hC hS x hx hx2 a ⟨i0.1, by omega⟩ (fun m1 p1 => ?_) 0 m ⟨by omega, i0.1⟩ i1
      exact s_St_stopAt_x m1 t a x (by omega) _ (ih _ (by omega) (a + 1) m1 rfl ⟨by omega, by omega⟩ p1)
theorem s_St_stopAt (mem : zMem) (t : Int) (h : isSt t) (hC : okC mem t) (hS : okG mem t) (x : Int) (hx : zkd zSH x = (6, 0)) (hx2 : okP (rP mem x)) : zF m_St_stopAt [(2, t), (2, x)] mem (fun r m => r = none ∧ SgW t mem (stpF mem t x) (mem t 3) 0 m) := by
  refine zF_of (by decide) (Nat.le_of_ble_eq_true rfl) ?_
  show zS zT m_St_stopAt (0, 0) 0 [some (2, t), some (2, x), none, none] [] mem _
  refine zV_iconst d_St_stopAt_0 ?_
  refine zV_istore_n (L' := [some (2, t), some (2, x), some (0, 0), none]) d_St_stopAt_1 (by decide) rfl ?_
  exact s_St_stopAt_2 mem t h hC hS x hx hx2 0 mem ⟨by omega, hC.1.1⟩ (SgW_0 hS)
theorem s_St_goOnFrom_12 (mem : zMem) (t : Int) (h : isSt t) (hC : okC mem t) (hS : okG mem t) (x : Int) (hx : zkd zSH x = (6, 0)) (hx2 : okP (rP mem x)) (a : Int) (ha : 0 ≤ a ∧ a < mem t 3) (kk : ∀ m, SgW t mem (goF mem t x) (a + 1) 0 m → zS zT m_St_goOnFrom (0, 0) 103 [some (2, t), some (2, x), some (0, a), none, none, none] [] m (zQs (fun r m => r = none ∧ SgW t mem (goF mem t x) (mem t 3) 0 m))) : ∀ (b : Int) (m : zMem), (0 ≤ b ∧ b ≤ a) → (SgW t mem (goF mem t x) a b m) → zS zT m_St_goOnFrom (0, 0) 12 [some (2, t), some (2, x), some (0, a), some (0, b), none, none] [] m (zQs (fun r m => r = none ∧ SgW t mem (goF mem t x) (mem t 3) 0 m)) := by
  intro b m
  obtain ⟨k9, hk9⟩ : ∃ kq : Nat, (a - b).toNat = kq := ⟨_, rfl⟩
  induction k9 using Nat.strongRecOn generalizing b m with
  | _ k9 ih =>
    intro i0 i1
    obtain ⟨c1, c2⟩ := id hC
    have e3 : m t 3 = mem t 3 := by rw [i1.1 t (by omega)]
    have e5 : m (t + 5) = mem (t + 5) := i1.1 _ (by omega)
    have e6 : m (t + 6) = mem (t + 6) := i1.1 _ (by omega)
    have e7 : m (t + 7) = mem (t + 7) := i1.1 _ (by omega)
    have ePx : rP m x = rP mem x := by unfold rP; rw [i1.1 x (ro_ne h hx)]
    have ga := c2 a ha.1 (by omega)
    have gb := c2 b i0.1 (by omega)
    have e5a := congrFun e5 a
    have e5b := congrFun e5 b
    have e6a := congrFun e6 a
    have e6b := congrFun e6 b
    have e7a := congrFun e7 a
    have e7b := congrFun e7 b
    have g8 := i1.2.2.2.2 (4 * a + b) (by omega) (by omega)
    refine zV_iload_n d_St_goOnFrom_12 rfl ?_
    refine zV_iload_n d_St_goOnFrom_13 rfl ?_
    refine zV_icmp_ge d_St_goOnFrom_14 (by omega) (by omega) (fun c14 => ?_) (fun c14 => ?_)
    · refine zV_forget (L' := [some (2, t), some (2, x), some (0, a), none, none, none]) (by simp [zle]) ?_
      exact kk m (SgW_up i1 (by omega))
    · refine zV_aload_n d_St_goOnFrom_17 rfl ?_
      refine zS_getr (r := (t + 8)) d_St_goOnFrom_18 f_St_47 (kSt0 h) rfl rfl ?_
      refine zV_iconst d_St_goOnFrom_21 ?_
      refine zV_iload_n d_St_goOnFrom_22 rfl ?_
      refine zV_imul d_St_goOnFrom_23 ?_
      refine zV_iload_n d_St_goOnFrom_24 rfl ?_
      refine zV_iadd d_St_goOnFrom_25 ?_
      refine zS_iald d_St_goOnFrom_26 (kSt8 h) rfl ⟨by omega, by omega⟩ ?_
      refine zV_istore (L' := [some (2, t), some (2, x), some (0, a), some (0, b), some (0, (m (t + 8) ((4 * a) + b))), none]) d_St_goOnFrom_27 (by decide) rfl ?_
      refine zV_aload_n d_St_goOnFrom_29 rfl ?_
      refine zS_getr (r := (t + 5)) d_St_goOnFrom_30 f_St_38 (kSt0 h) rfl rfl ?_
      refine zV_iload_n d_St_goOnFrom_33 rfl ?_
      refine zS_iald d_St_goOnFrom_34 (kSt5 h) rfl ⟨by omega, by omega⟩ ?_
      refine zV_aload_n d_St_goOnFrom_35 rfl ?_
      refine zS_getr (r := (t + 5)) d_St_goOnFrom_36 f_St_38 (kSt0 h) rfl rfl ?_
      refine zV_iload_n d_St_goOnFrom_39 rfl ?_
      refine zS_iald d_St_goOnFrom_40 (kSt5 h) rfl ⟨by omega, by omega⟩ ?_
      refine zV_isub d_St_goOnFrom_41 ?_
      refine zV_istore (L' := [some (2, t), some (2, x), some (0, a), some (0, b), some (0, (m (t + 8) ((4 * a) + b))), some (0, ((m (t + 5) a) - (m (t + 5) b)))]) d_St_goOnFrom_42 (by decide) rfl ?_
      refine zV_iload d_St_goOnFrom_44 rfl ?_
      refine zV_if_ne d_St_goOnFrom_46 (by omega) (fun c46 => ?_) (fun c46 => ?_)
      · refine zV_aload_n d_St_goOnFrom_75 rfl ?_
        refine zV_iload_n d_St_goOnFrom_76 rfl ?_
        refine zV_iload_n d_St_goOnFrom_77 rfl ?_
        refine zV_iload d_St_goOnFrom_78 rfl ?_
        refine zV_if_ne d_St_goOnFrom_80 (by omega) (fun c80 => ?_) (fun c80 => ?_)
        · refine zV_iload d_St_goOnFrom_92 rfl ?_
          refine zS_invvE (mt' := m_St_note) (avs := [(0, a), (0, b), (0, (m (t + 8) ((4 * a) + b)))]) (st := []) d_St_goOnFrom_94 l_St_131 k_St_note (kSt0 h) rfl rfl rfl rfl (s_St_note m t a b (m (t + 8) ((4 * a) + b)) h (by omega) (by omega)) ?_
          show zS zT m_St_goOnFrom (0, 0) 97 [some (2, t), some (2, x), some (0, a), some (0, b), some (0, (m (t + 8) ((4 * a) + b))), some (0, ((m (t + 5) a) - (m (t + 5) b)))] [] (ntS m t a b (m (t + 8) ((4 * a) + b))) _
          refine zV_iinc (L' := [some (2, t), some (2, x), some (0, a), some (0, (b + 1)), some (0, (m (t + 8) ((4 * a) + b))), some (0, ((m (t + 5) a) - (m (t + 5) b)))]) d_St_goOnFrom_97 (by decide) rfl rfl ?_
          refine zV_goto d_St_goOnFrom_100 ?_
          refine zV_forget (L' := [some (2, t), some (2, x), some (0, a), some (0, (b + 1)), none, none]) (by simp [zle]) ?_
          refine ih _ (by omega) (b + 1) _ rfl (by omega) (SgW_st i1 ⟨by omega, by omega, by omega⟩ ?_ ?_)
          · have e8 := i1.2.2.1 a b i0.1 (by omega) (by omega) (by omega)
            unfold goF
            rw [← e8, ← e5, ← e6, ← ePx]
            (repeat' split) <;> first | rfl | omega
          · first | omega | exact cmpI_r _ _ | (have := sgP_3 (rP m x) 0 (2 * (m (t + 5) a - m (t + 5) b)) (m (t + 6) a - m (t + 6) b); omega)
        · refine zV_iload d_St_goOnFrom_83 rfl ?_
          refine zV_iconst d_St_goOnFrom_85 ?_
          refine zS_invsE (mt' := m_In_compare) (avs := [(0, ((m (t + 5) a) - (m (t + 5) b))), (0, 0)]) (st := [(0, b), (0, a), (2, t)]) d_St_goOnFrom_86 l_St_125 k_In_compare rfl rfl rfl rfl (s_In_compare m ((m (t + 5) a) - (m (t + 5) b)) 0 (by omega) (by omega)) ?_
          show zS zT m_St_goOnFrom (0, 0) 89 [some (2, t), some (2, x), some (0, a), some (0, b), some (0, (m (t + 8) ((4 * a) + b))), some (0, ((m (t + 5) a) - (m (t + 5) b)))] [(0, (cmpI ((m (t + 5) a) - (m (t + 5) b)) 0)), (0, b), (0, a), (2, t)] m _
          refine zV_goto d_St_goOnFrom_89 ?_
          refine zS_invvE (mt' := m_St_note) (avs := [(0, a), (0, b), (0, (cmpI ((m (t + 5) a) - (m (t + 5) b)) 0))]) (st := []) d_St_goOnFrom_94 l_St_131 k_St_note (kSt0 h) rfl rfl rfl rfl (s_St_note m t a b (cmpI ((m (t + 5) a) - (m (t + 5) b)) 0) h (by omega) (by omega)) ?_
          show zS zT m_St_goOnFrom (0, 0) 97 [some (2, t), some (2, x), some (0, a), some (0, b), some (0, (m (t + 8) ((4 * a) + b))), some (0, ((m (t + 5) a) - (m (t + 5) b)))] [] (ntS m t a b (cmpI ((m (t + 5) a) - (m (t + 5) b)) 0)) _
          refine zV_iinc (L' := [some (2, t), some (2, x), some (0, a), some (0, (b + 1)), some (0, (m (t + 8) ((4 * a) + b))), some (0, ((m (t + 5) a) - (m (t + 5) b)))]) d_St_goOnFrom_97 (by decide) rfl rfl ?_
          refine zV_goto d_St_goOnFrom_100 ?_
          refine zV_forget (L' := [some (2, t), some (2, x), some (0, a), some (0, (b + 1)), none, none]) (by simp [zle]) ?_
          refine ih _ (by omega) (b + 1) _ rfl (by omega) (SgW_st i1 ⟨by omega, by omega, by omega⟩ ?_ ?_)
          · have e8 := i1.2.2.1 a b i0.1 (by omega) (by omega) (by omega)
            unfold goF
            rw [← e8, ← e5, ← e6, ← ePx]
            (repeat' split) <;> first | rfl | omega
          · first | omega | exact cmpI_r _ _ | (have := sgP_3 (rP m x) 0 (2 * (m (t + 5) a - m (t + 5) b)) (m (t + 6) a - m (t + 6) b); omega)
      · refine zV_aload_n d_St_goOnFrom_49 rfl ?_
        refine zV_lconst0 d_St_goOnFrom_50 ?_
        refine zV_iconst d_St_goOnFrom_51 ?_
        refine zV_iload d_St_goOnFrom_52 rfl ?_
        refine zV_imul d_St_goOnFrom_54 ?_
        refine zV_i2l d_St_goOnFrom_55 (by omega) ?_
        refine zV_aload_n d_St_goOnFrom_56 rfl ?_
        refine zS_getr (r := (t + 6)) d_St_goOnFrom_57 f_St_41 (kSt0 h) rfl rfl ?_
        refine zV_iload_n d_St_goOnFrom_60 rfl ?_
        refine zS_iald d_St_goOnFrom_61 (kSt6 h) rfl ⟨by omega, by omega⟩ ?_
        refine zV_aload_n d_St_goOnFrom_62 rfl ?_
        refine zS_getr (r := (t + 6)) d_St_goOnFrom_63 f_St_41 (kSt0 h) rfl rfl ?_
        refine zV_iload_n d_St_goOnFrom_66 rfl ?_
        refine zS_iald d_St_goOnFrom_67 (kSt6 h) rfl ⟨by omega, by omega⟩ ?_
        refine zV_isub d_St_goOnFrom_68 ?_
        refine zV_i2l d_St_goOnFrom_69 (by omega) ?_
        refine zS_invvE (mt' := m_Ro_signOf) (avs := [(1, 0), (1, (2 * ((m (t + 5) a) - (m (t + 5) b)))), (1, ((m (t + 6) a) - (m (t + 6) b)))]) (st := []) d_St_goOnFrom_70 l_St_135 k_Ro_signOf hx rfl rfl rfl rfl (s_Ro_signOf m x 0 (2 * ((m (t + 5) a) - (m (t + 5) b))) ((m (t + 6) a) - (m (t + 6) b)) hx (by rw [ePx]; exact hx2) (by omega) (by omega) (by omega)) ?_
        show zS zT m_St_goOnFrom (0, 0) 73 [some (2, t), some (2, x), some (0, a), some (0, b), some (0, (m (t + 8) ((4 * a) + b))), some (0, ((m (t + 5) a) - (m (t + 5) b)))] [(0, (sgP (rP m x) 0 (2 * ((m (t + 5) a) - (m (t + 5) b))) ((m (t + 6) a) - (m (t + 6) b))))] m _
        refine zV_istore (L' := [some (2, t), some (2, x), some (0, a), some (0, b), some (0, (sgP (rP m x) 0 (2 * ((m (t + 5) a) - (m (t + 5) b))) ((m (t + 6) a) - (m (t + 6) b)))), some (0, ((m (t + 5) a) - (m (t + 5) b)))]) d_St_goOnFrom_73 (by decide) rfl ?_
        refine zV_aload_n d_St_goOnFrom_75 rfl ?_
        refine zV_iload_n d_St_goOnFrom_76 rfl ?_
        refine zV_iload_n d_St_goOnFrom_77 rfl ?_
        refine zV_iload d_St_goOnFrom_78 rfl ?_
        refine zV_if_ne d_St_goOnFrom_80 (sgP_i _ _ _ _) (fun c80 => ?_) (fun c80 => ?_)
        · refine zV_iload d_St_goOnFrom_92 rfl ?_
          refine zS_invvE (mt' := m_St_note) (avs := [(0, a), (0, b), (0, (sgP (rP m x) 0 (2 * ((m (t + 5) a) - (m (t + 5) b))) ((m (t + 6) a) - (m (t + 6) b))))]) (st := []) d_St_goOnFrom_94 l_St_131 k_St_note (kSt0 h) rfl rfl rfl rfl (s_St_note m t a b (sgP (rP m x) 0 (2 * ((m (t + 5) a) - (m (t + 5) b))) ((m (t + 6) a) - (m (t + 6) b))) h (by omega) (by omega)) ?_
          show zS zT m_St_goOnFrom (0, 0) 97 [some (2, t), some (2, x), some (0, a), some (0, b), some (0, (sgP (rP m x) 0 (2 * ((m (t + 5) a) - (m (t + 5) b))) ((m (t + 6) a) - (m (t + 6) b)))), some (0, ((m (t + 5) a) - (m (t + 5) b)))] [] (ntS m t a b (sgP (rP m x) 0 (2 * ((m (t + 5) a) - (m (t + 5) b))) ((m (t + 6) a) - (m (t + 6) b)))) _
          refine zV_iinc (L' := [some (2, t), some (2, x), some (0, a), some (0, (b + 1)), some (0, (sgP (rP m x) 0 (2 * ((m (t + 5) a) - (m (t + 5) b))) ((m (t + 6) a) - (m (t + 6) b)))), some (0, ((m (t + 5) a) - (m (t + 5) b)))]) d_St_goOnFrom_97 (by decide) rfl rfl ?_
          refine zV_goto d_St_goOnFrom_100 ?_
          refine zV_forget (L' := [some (2, t), some (2, x), some (0, a), some (0, (b + 1)), none, none]) (by simp [zle]) ?_
          refine ih _ (by omega) (b + 1) _ rfl (by omega) (SgW_st i1 ⟨by omega, by omega, by omega⟩ ?_ ?_)
          · have e8 := i1.2.2.1 a b i0.1 (by omega) (by omega) (by omega)
            unfold goF
            rw [← e8, ← e5, ← e6, ← ePx]
            (repeat' split) <;> first | rfl | omega
          · first | omega | exact cmpI_r _ _ | (have := sgP_3 (rP m x) 0 (2 * (m (t + 5) a - m (t + 5) b)) (m (t + 6) a - m (t + 6) b); omega)
        · refine zV_iload d_St_goOnFrom_83 rfl ?_
          refine zV_iconst d_St_goOnFrom_85 ?_
          refine zS_invsE (mt' := m_In_compare) (avs := [(0, ((m (t + 5) a) - (m (t + 5) b))), (0, 0)]) (st := [(0, b), (0, a), (2, t)]) d_St_goOnFrom_86 l_St_125 k_In_compare rfl rfl rfl rfl (s_In_compare m ((m (t + 5) a) - (m (t + 5) b)) 0 (by omega) (by omega)) ?_
          show zS zT m_St_goOnFrom (0, 0) 89 [some (2, t), some (2, x), some (0, a), some (0, b), some (0, (sgP (rP m x) 0 (2 * ((m (t + 5) a) - (m (t + 5) b))) ((m (t + 6) a) - (m (t + 6) b)))), some (0, ((m (t + 5) a) - (m (t + 5) b)))] [(0, (cmpI ((m (t + 5) a) - (m (t + 5) b)) 0)), (0, b), (0, a), (2, t)] m _
          refine zV_goto d_St_goOnFrom_89 ?_
          refine zS_invvE (mt' := m_St_note) (avs := [(0, a), (0, b), (0, (cmpI ((m (t + 5) a) - (m (t + 5) b)) 0))]) (st := []) d_St_goOnFrom_94 l_St_131 k_St_note (kSt0 h) rfl rfl rfl rfl (s_St_note m t a b (cmpI ((m (t + 5) a) - (m (t + 5) b)) 0) h (by omega) (by omega)) ?_
          show zS zT m_St_goOnFrom (0, 0) 97 [some (2, t), some (2, x), some (0, a), some (0, b), some (0, (sgP (rP m x) 0 (2 * ((m (t + 5) a) - (m (t + 5) b))) ((m (t + 6) a) - (m (t + 6) b)))), some (0, ((m (t + 5) a) - (m (t + 5) b)))] [] (ntS m t a b (cmpI ((m (t + 5) a) - (m (t + 5) b)) 0)) _
          refine zV_iinc (L' := [some (2, t), some (2, x), some (0, a), some (0, (b + 1)), some (0, (sgP (rP m x) 0 (2 * ((m (t + 5) a) - (m (t + 5) b))) ((m (t + 6) a) - (m (t + 6) b)))), some (0, ((m (t + 5) a) - (m (t + 5) b)))]) d_St_goOnFrom_97 (by decide) rfl rfl ?_
          refine zV_goto d_St_goOnFrom_100 ?_
          refine zV_forget (L' := [some (2, t), some (2, x), some (0, a), some (0, (b + 1)), none, none]) (by simp [zle]) ?_
          refine ih _ (by omega) (b + 1) _ rfl (by omega) (SgW_st i1 ⟨by omega, by omega, by omega⟩ ?_ ?_)
          · have e8 := i1.2.2.1 a b i0.1 (by omega) (by omega) (by omega)
            unfold goF
            rw [← e8, ← e5, ← e6, ← ePx]
            (repeat' split) <;> first | rfl | omega
          · first | omega | exact cmpI_r _ _ | (have := sgP_3 (rP m x) 0 (2 * (m (t + 5) a - m (t + 5) b)) (m (t + 6) a - m (t + 6) b); omega)
theorem s_St_goOnFrom_x (m : zMem) (t a x : Int) (ha : 0 ≤ a ∧ a < 4) (Q9 : zQ2) (kk : zS zT m_St_goOnFrom (0, 0) 2 [some (2, t), some (2, x), some (0, (a + 1)), none, none, none] [] m (zQs Q9)) : zS zT m_St_goOnFrom (0, 0) 103 [some (2, t), some (2, x), some (0, a), none, none, none] [] m (zQs Q9) := by
  refine zV_iinc (L' := [some (2, t), some (2, x), some (0, (a + 1)), none, none, none]) d_St_goOnFrom_103 (by decide) rfl rfl ?_
  refine zV_goto d_St_goOnFrom_106 ?_
  exact kk
theorem s_St_goOnFrom_2 (mem : zMem) (t : Int) (h : isSt t) (hC : okC mem t) (hS : okG mem t) (x : Int) (hx : zkd zSH x = (6, 0)) (hx2 : okP (rP mem x)) : ∀ (a : Int) (m : zMem), (0 ≤ a ∧ a ≤ mem t 3) → (SgW t mem (goF mem t x) a 0 m) → zS zT m_St_goOnFrom (0, 0) 2 [some (2, t), some (2, x), some (0, a), none, none, none] [] m (zQs (fun r m => r = none ∧ SgW t mem (goF mem t x) (mem t 3) 0 m)) := by
  intro a m
  obtain ⟨k9, hk9⟩ : ∃ kq : Nat, (mem t 3 - a).toNat = kq := ⟨_, rfl⟩
  induction k9 using Nat.strongRecOn generalizing a m with
  | _ k9 ih =>
    intro i0 i1
    obtain ⟨c1, c2⟩ := id hC
    have e3 : m t 3 = mem t 3 := by rw [i1.1 t (by omega)]
    refine zV_iload_n d_St_goOnFrom_2 rfl ?_
    refine zV_aload_n d_St_goOnFrom_3 rfl ?_
    refine zS_get d_St_goOnFrom_4 f_St_24 (kSt0 h) rfl ?_
    refine zV_icmp_ge d_St_goOnFrom_7 (by omega) (by omega) (fun c7 => ?_) (fun c7 => ?_)
    · exact zS_vret d_St_goOnFrom_109 rfl ⟨Nat.zero_le _, Nat.zero_le _⟩ ⟨rfl, by rw [show mem t 3 = a by omega]; exact i1⟩
    · refine zV_iconst d_St_goOnFrom_10 ?_
      refine zV_istore_n (L' := [some (2, t), some (2, x), some (0, a), some (0, 0), none, none]) d_St_goOnFrom_11 (by decide) rfl ?_
      refine s_St_goOnFrom_12 mem t h hC hS x hx hx2 a ⟨i0.1, by omega⟩ (fun m1 p1 => ?_) 0 m ⟨by omega, i0.1⟩ i1
      exact s_St_goOnFrom_x m1 t a x (by omega) _ (ih _ (by omega) (a + 1) m1 rfl ⟨by omega, by omega⟩ p1)
theorem s_St_goOnFrom (mem : zMem) (t : Int) (h : isSt t) (hC : okC mem t) (hS : okG mem t) (x : Int) (hx : zkd zSH x = (6, 0)) (hx2 : okP (rP mem x)) : zF m_St_goOnFrom [(2, t), (2, x)] mem (fun r m => r = none ∧ SgW t mem (goF mem t x) (mem t 3) 0 m) := by
  refine zF_of (by decide) (Nat.le_of_ble_eq_true rfl) ?_
  show zS zT m_St_goOnFrom (0, 0) 0 [some (2, t), some (2, x), none, none, none, none] [] mem _
  refine zV_iconst d_St_goOnFrom_0 ?_
  refine zV_istore_n (L' := [some (2, t), some (2, x), some (0, 0), none, none, none]) d_St_goOnFrom_1 (by decide) rfl ?_
  exact s_St_goOnFrom_2 mem t h hC hS x hx hx2 0 mem ⟨by omega, hC.1.1⟩ (SgW_0 hS)
