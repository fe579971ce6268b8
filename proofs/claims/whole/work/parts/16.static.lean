/-! after both constructors: the shape stands, final references are read off it -/
def zSH : zSh := [(10, 0), (4, 0), (12, 24), (7, 0), (15, 4), (0, 0), (0, 0), (0, 0), (0, 0), (7, 0), (15, 4), (0, 0), (0, 0), (0, 0), (0, 0), (7, 0), (15, 4), (0, 0), (0, 0), (0, 0), (0, 0), (8, 0), (12, 6), (12, 6), (12, 6), (12, 6), (8, 0), (12, 6), (12, 6), (12, 6), (12, 6),
  (9, 0), (16, 12), (12, 25), (12, 100), (14, 4), (12, 4), (12, 4), (12, 4), (12, 16), (6, 0), (6, 0), (6, 0), (6, 0), (6, 0), (6, 0), (6, 0), (6, 0), (6, 0), (6, 0), (6, 0), (6, 0),
  (9, 0), (16, 12), (12, 25), (12, 100), (14, 4), (12, 4), (12, 4), (12, 4), (12, 16), (6, 0), (6, 0), (6, 0), (6, 0), (6, 0), (6, 0), (6, 0), (6, 0), (6, 0), (6, 0), (6, 0), (6, 0),
  (2, 0), (12, 4), (3, 0), (12, 225), (1, 0), (5, 0), (12, 8),
  (11, 0), (12, 24), (12, 4), (12, 4), (12, 4), (12, 4), (13, 64), (13, 64), (13, 64), (13, 64), (12, 160), (12, 40), (12, 8), (12, 360), (12, 24), (12, 4), (12, 4), (12, 4), (12, 4), (12, 24)]
def zof : Nat → Nat → Option Int
  | 10, 0 => some 1
  | 10, 1 => some 3
  | 10, 2 => some 9
  | 10, 3 => some 15
  | 10, 4 => some 21
  | 10, 5 => some 26
  | 10, 6 => some 31
  | 10, 7 => some 52
  | 10, 8 => some 73
  | 10, 9 => some 75
  | 10, 10 => some 77
  | 10, 11 => some 78
  | 4, 0 => some 1
  | 7, 0 => some 1
  | 8, 0 => some 1
  | 8, 1 => some 2
  | 8, 2 => some 3
  | 8, 3 => some 4
  | 9, 0 => some 1
  | 9, 4 => some 2
  | 9, 5 => some 3
  | 9, 6 => some 4
  | 9, 7 => some 5
  | 9, 8 => some 6
  | 9, 9 => some 7
  | 9, 10 => some 8
  | 2, 0 => some 1
  | 3, 0 => some 1
  | 5, 0 => some 1
  | 11, 0 => some 1
  | 11, 5 => some 2
  | 11, 6 => some 3
  | 11, 7 => some 4
  | 11, 8 => some 5
  | 11, 10 => some 6
  | 11, 11 => some 7
  | 11, 12 => some 8
  | 11, 13 => some 9
  | 11, 16 => some 10
  | 11, 17 => some 11
  | 11, 19 => some 12
  | 11, 21 => some 13
  | 11, 23 => some 14
  | 11, 28 => some 15
  | 11, 29 => some 16
  | 11, 30 => some 17
  | 11, 31 => some 18
  | 11, 32 => some 19
  | _, _ => none
/-- what a slot of a kind holds for good: so much behind its cell -/
def zst (c : Nat) (k : Int) : Option Int := match k with
  | .negSucc _ => none
  | .ofNat n => if c = 15 then some (1 + (n : Int)) else zof c n
def zov (mem : zMem) : zMem := fun a k => match zst (zkd zSH a).1 k with
  | some o => a + o
  | none => mem a k
theorem zov_st {mem : zMem} {a k o : Int} {c m9 : Nat} (hk : zkd zSH a = (c, m9)) (h : zst c k = some o) : zov mem a k = a + o := by
  unfold zov
  rw [hk]
  show (match zst c k with
    | some o => a + o
    | none => mem a k) = _
  rw [h]
theorem zov_no {mem : zMem} {a k : Int} {c m9 : Nat} (hk : zkd zSH a = (c, m9)) (h : zst c k = none) : zov mem a k = mem a k := by
  unfold zov
  rw [hk]
  show (match zst c k with
    | some o => a + o
    | none => mem a k) = _
  rw [h]
theorem zov_up {mem : zMem} {a k v : Int} {c m9 : Nat} (hk : zkd zSH a = (c, m9)) (h : zst c k = none) : zup (zov mem) a k v = zov (zup mem a k v) := by
  funext a' k'
  unfold zup
  by_cases e : a' = a ∧ k' = k
  · rw [if_pos e]
    obtain ⟨rfl, rfl⟩ := e
    rw [zov_no hk h, if_pos ⟨rfl, rfl⟩]
  · rw [if_neg e]
    unfold zov
    cases hz : zst (zkd zSH a').1 k' with
    | none => simp only; rw [if_neg e]
    | some o => rfl
theorem zst_arr {c : Nat} (h : c = 12 ∨ c = 13 ∨ c = 14 ∨ c = 16) (k : Int) : zst c k = none := by
  unfold zst
  cases k with
  | negSucc n => rfl
  | ofNat n => rcases h with rfl | rfl | rfl | rfl <;> rfl
theorem zst_15 {k : Int} (h : 0 ≤ k) : zst 15 k = some (1 + k) := by
  cases k with
  | negSucc n => exact absurd h (by omega)
  | ofNat n => rfl
abbrev zQ2 : Type := Option zAV → zMem → Prop
def zQs (Q : zQ2) : zQT := fun r sh m => sh = zSH ∧ ∃ m', m = zov m' ∧ Q r m'
abbrev zS (P : zCT → Prop) (mt : zMT) (u : Nat × Nat) (pc : Nat) (L : List (Option zAV)) (st : List zAV) (mem : zMem) (Q : zQT) : Prop := zV P mt zSH u pc L st (zov mem) Q
def zF (mt : zMT) (avs : List zAV) (mem : zMem) (Q : zQ2) : Prop := zSp mt avs zSH (zov mem) (zQs Q)
theorem zF_of {mt : zMT} {avs : List zAV} {mem : zMem} {Q : zQ2} (hy : plainName mt.1.cls = true) (hn : (zal avs).length ≤ mt.2.2.1) (hw : zS zT mt (0, 0) 0 (zpad mt.2.2.1 (zal avs)) [] mem (zQs Q)) : zF mt avs mem Q := zSp_of hy hn hw
theorem zF_imp {mt : zMT} {avs : List zAV} {mem : zMem} {Q Q' : zQ2} (h : zF mt avs mem Q) (hq : ∀ r m, Q r m → Q' r m) : zF mt avs mem Q' := by
  intro l X
  obtain h1 := h l X
  intro p e ha hc hk s m args below hf happ hpc htr
  obtain ⟨k, o, h1, h2, h3, ⟨r, sh, m', q1, ⟨q2, m2, q3, q4⟩, q5⟩, h5⟩ := h1 p e ha hc hk s m args below hf happ hpc htr
  exact ⟨k, o, h1, h2, h3, ⟨r, sh, m', q1, ⟨q2, m2, q3, hq r m2 q4⟩, q5⟩, h5⟩
section zSTAT
variable {P : zCT → Prop} {mt : zMT} {u : Nat × Nat} {pc n : Nat} {L L' : List (Option zAV)} {st st0 : List zAV} {mem : zMem} {Q : zQT} {Q2 Q3 : zQ2} {a b r o : Int}
theorem zS_getr {i c k m9 : Nat} {kI : Int} (hd : decode mt.2.1 pc = .ok (.getfield i, 3) ∧ pc + 3 = n) (hf : zFl mt.1.cls i c k 2 kI) (hk : zkd zSH a = (c, m9)) (hs : zst c kI = some o) (hr : a + o = r) (kk : zS P mt u n L ((2, r) :: st) mem Q) : zS P mt u pc L ((2, a) :: st) mem Q := by
  refine zV_getf hd hf hk ?_
  rw [zov_st hk hs, hr]
  exact kk
theorem zS_get {i c k t m9 : Nat} {kI : Int} (hd : decode mt.2.1 pc = .ok (.getfield i, 3) ∧ pc + 3 = n) (hf : zFl mt.1.cls i c k t kI) (hk : zkd zSH a = (c, m9)) (hs : zst c kI = none) (kk : zS P mt u n L ((t, mem a kI) :: st) mem Q) : zS P mt u pc L ((2, a) :: st) mem Q := by
  refine zV_getf hd hf hk ?_
  rw [zov_no hk hs]
  exact kk
theorem zS_puti {i c k m9 : Nat} {kI : Int} (hd : decode mt.2.1 pc = .ok (.putfield i, 3) ∧ pc + 3 = n) (hf : zFl mt.1.cls i c k 0 kI) (hk : zkd zSH a = (c, m9)) (hfin : ((zcl c).2.1 k).2.2.2 = false ∧ zty c k = .int) (hs : zst c kI = none) (kk : zS P mt u n L st (zup mem a kI b) Q) : zS P mt u pc L ((0, b) :: (2, a) :: st) mem Q := by
  refine zV_puti hd hf hk hfin ?_
  rw [zov_up hk hs]
  exact kk
theorem zS_putl {i c k m9 : Nat} {kI : Int} (hd : decode mt.2.1 pc = .ok (.putfield i, 3) ∧ pc + 3 = n) (hf : zFl mt.1.cls i c k 1 kI) (hk : zkd zSH a = (c, m9)) (hfin : ((zcl c).2.1 k).2.2.2 = false ∧ zty c k = .long) (hs : zst c kI = none) (kk : zS P mt u n L st (zup mem a kI b) Q) : zS P mt u pc L ((1, b) :: (2, a) :: st) mem Q := by
  refine zV_putl hd hf hk hfin ?_
  rw [zov_up hk hs]
  exact kk
theorem zS_putz {i c k m9 : Nat} {kI : Int} (hd : decode mt.2.1 pc = .ok (.putfield i, 3) ∧ pc + 3 = n) (hf : zFl mt.1.cls i c k 0 kI) (hk : zkd zSH a = (c, m9)) (hfin : ((zcl c).2.1 k).2.2.2 = false ∧ zty c k = .boolean) (hs : zst c kI = none) (hb : b = 0 ∨ b = 1) (kk : zS P mt u n L st (zup mem a kI b) Q) : zS P mt u pc L ((0, b) :: (2, a) :: st) mem Q := by
  refine zV_putz hd hf hk hfin hb ?_
  rw [zov_up hk hs]
  exact kk
theorem zS_iald {m9 : Nat} (hd : decode mt.2.1 pc = .ok (.iaload, 1) ∧ pc + 1 = n) (hk : zkd zSH a = (12, m9)) (hm : Nat.ble m9 100000 = true) (hb : 0 ≤ b ∧ b < m9) (kk : zS P mt u n L ((0, mem a b) :: st) mem Q) : zS P mt u pc L ((0, b) :: (2, a) :: st) mem Q := by
  refine zV_iald hd hk hm hb ?_
  rw [zov_no hk (zst_arr (by omega) _)]
  exact kk
theorem zS_lald {m9 : Nat} (hd : decode mt.2.1 pc = .ok (.laload, 1) ∧ pc + 1 = n) (hk : zkd zSH a = (13, m9)) (hm : Nat.ble m9 100000 = true) (hb : 0 ≤ b ∧ b < m9) (kk : zS P mt u n L ((1, mem a b) :: st) mem Q) : zS P mt u pc L ((0, b) :: (2, a) :: st) mem Q := by
  refine zV_lald hd hk hm hb ?_
  rw [zov_no hk (zst_arr (by omega) _)]
  exact kk
theorem zS_zald {m9 : Nat} (hd : decode mt.2.1 pc = .ok (.baload, 1) ∧ pc + 1 = n) (hk : zkd zSH a = (14, m9)) (hm : Nat.ble m9 100000 = true) (hb : 0 ≤ b ∧ b < m9) (kk : zS P mt u n L ((0, mem a b) :: st) mem Q) : zS P mt u pc L ((0, b) :: (2, a) :: st) mem Q := by
  refine zV_zald hd hk hm hb ?_
  rw [zov_no hk (zst_arr (by omega) _)]
  exact kk
theorem zS_ald15 {m9 : Nat} (hd : decode mt.2.1 pc = .ok (.aaload, 1) ∧ pc + 1 = n) (hk : zkd zSH a = (15, m9)) (hm : Nat.ble m9 100000 = true) (hb : 0 ≤ b ∧ b < m9) (hr : a + (1 + b) = r) (kk : zS P mt u n L ((2, r) :: st) mem Q) : zS P mt u pc L ((0, b) :: (2, a) :: st) mem Q := by
  refine zV_ald15 hd hk hm hb ?_
  rw [zov_st hk (zst_15 hb.1), hr]
  exact kk
theorem zS_ald16 {m9 : Nat} (hd : decode mt.2.1 pc = .ok (.aaload, 1) ∧ pc + 1 = n) (hk : zkd zSH a = (16, m9)) (hm : Nat.ble m9 100000 = true) (hb : 0 ≤ b ∧ b < m9) (kk : zS P mt u n L ((2, mem a b) :: st) mem Q) : zS P mt u pc L ((0, b) :: (2, a) :: st) mem Q := by
  refine zV_ald16 hd hk hm hb ?_
  rw [zov_no hk (zst_arr (by omega) _)]
  exact kk
theorem zS_iast {m9 : Nat} {x : Int} (hd : decode mt.2.1 pc = .ok (.iastore, 1) ∧ pc + 1 = n) (hk : zkd zSH a = (12, m9)) (hm : Nat.ble m9 100000 = true) (hb : 0 ≤ b ∧ b < m9) (kk : zS P mt u n L st (zup mem a b x) Q) : zS P mt u pc L ((0, x) :: (0, b) :: (2, a) :: st) mem Q := by
  refine zV_iast hd hk hm hb ?_
  rw [zov_up hk (zst_arr (by omega) _)]
  exact kk
theorem zS_last {m9 : Nat} {x : Int} (hd : decode mt.2.1 pc = .ok (.lastore, 1) ∧ pc + 1 = n) (hk : zkd zSH a = (13, m9)) (hm : Nat.ble m9 100000 = true) (hb : 0 ≤ b ∧ b < m9) (kk : zS P mt u n L st (zup mem a b x) Q) : zS P mt u pc L ((1, x) :: (0, b) :: (2, a) :: st) mem Q := by
  refine zV_last hd hk hm hb ?_
  rw [zov_up hk (zst_arr (by omega) _)]
  exact kk
theorem zS_zast {m9 : Nat} {x : Int} (hd : decode mt.2.1 pc = .ok (.bastore, 1) ∧ pc + 1 = n) (hk : zkd zSH a = (14, m9)) (hm : Nat.ble m9 100000 = true) (hb : 0 ≤ b ∧ b < m9) (hx : x = 0 ∨ x = 1) (kk : zS P mt u n L st (zup mem a b x) Q) : zS P mt u pc L ((0, x) :: (0, b) :: (2, a) :: st) mem Q := by
  refine zV_zast hd hk hm hb hx ?_
  rw [zov_up hk (zst_arr (by omega) _)]
  exact kk
theorem zS_aast {m9 m8 : Nat} {x : Int} (hd : decode mt.2.1 pc = .ok (.aastore, 1) ∧ pc + 1 = n) (hk : zkd zSH a = (16, m9)) (hm : Nat.ble m9 100000 = true) (hb : 0 ≤ b ∧ b < m9) (hx : zkd zSH x = (6, m8)) (kk : zS P mt u n L st (zup mem a b x) Q) : zS P mt u pc L ((2, x) :: (0, b) :: (2, a) :: st) mem Q := by
  refine zV_aast 16 4 (Or.inr ⟨rfl, rfl, rfl⟩) hd hk hm hb hx ?_
  rw [zov_up hk (zst_arr (by omega) _)]
  exact kk
theorem zS_iret (hd : decode mt.2.1 pc = .ok (.ireturn, 1)) (hr : mt.2.2.2.1 = some .int) (hu : u.1 ≤ (zrm mt).cells ∧ u.2 ≤ (zrm mt).slots) (hq : Q2 (some (0, a)) mem) : zS P mt u pc L [(0, a)] mem (zQs Q2) := zV_iret hd hr hu ⟨rfl, mem, rfl, hq⟩
theorem zS_zret (hd : decode mt.2.1 pc = .ok (.ireturn, 1)) (hr : mt.2.2.2.1 = some .boolean) (hu : u.1 ≤ (zrm mt).cells ∧ u.2 ≤ (zrm mt).slots) (hb : a = 0 ∨ a = 1) (hq : Q2 (some (0, a)) mem) : zS P mt u pc L [(0, a)] mem (zQs Q2) := zV_zret hd hr hu hb ⟨rfl, mem, rfl, hq⟩
theorem zS_lret (hd : decode mt.2.1 pc = .ok (.lreturn, 1)) (hr : mt.2.2.2.1 = some .long) (hu : u.1 ≤ (zrm mt).cells ∧ u.2 ≤ (zrm mt).slots) (hq : Q2 (some (1, a)) mem) : zS P mt u pc L [(1, a)] mem (zQs Q2) := zV_lret hd hr hu ⟨rfl, mem, rfl, hq⟩
theorem zS_vret (hd : decode mt.2.1 pc = .ok (.return_, 1)) (hr : mt.2.2.2.1 = none) (hu : u.1 ≤ (zrm mt).cells ∧ u.2 ≤ (zrm mt).slots) (hq : Q2 none mem) : zS P mt u pc L [] mem (zQs Q2) := zV_vret hd hr hu ⟨rfl, mem, rfl, hq⟩
theorem zS_invs {i : Nat} {mt' : zMT} {avs : List zAV} (hd : decode mt.2.1 pc = .ok (.invokestatic i, 3) ∧ pc + 3 = n) (hl1 : Cond.methodLink mt.1.cls i mt'.1 ∈ zwsG) (hm : zMs mt' avs.length) (hst : avs.reverse ++ st = st0) (hrk : zrk mt mt' u = true) (hcs : Nat.ble (zcs st) 8 = true) (hu : u = (u.1 + (zrm mt').cells, u.2 + (zrm mt').slots)) (sp : zF mt' avs mem Q2)
    (kk : ∀ r m', Q2 r m' → zS P mt u n L (r.toList ++ st) m' Q) : zS P mt u pc L st0 mem Q := by
  refine zV_invs mt' avs hd hl1 hm hst hrk hcs hu sp (fun r sh' m hq => ?_)
  obtain ⟨rfl, m', rfl, hq⟩ := hq
  exact kk r m' hq
theorem zS_invv {i c m9 : Nat} {mt' : zMT} {avs : List zAV} (hd : decode mt.2.1 pc = .ok (.invokevirtual i, 3) ∧ pc + 3 = n) (hl1 : Cond.methodLink mt.1.cls i mt'.1 ∈ zwsG) (hm : zMv mt' avs.length c) (hk : zkd zSH a = (c, m9)) (hst : avs.reverse ++ (2, a) :: st = st0) (hrk : zrk mt mt' u = true) (hcs : Nat.ble (zcs st) 8 = true) (hu : u = (u.1 + (zrm mt').cells, u.2 + (zrm mt').slots)) (sp : zF mt' ((2, a) :: avs) mem Q2)
    (kk : ∀ r m', Q2 r m' → zS P mt u n L (r.toList ++ st) m' Q) : zS P mt u pc L st0 mem Q := by
  refine zV_invv mt' avs hd hl1 hm hk hst hrk hcs hu sp (fun r sh' m hq => ?_)
  obtain ⟨rfl, m', rfl, hq⟩ := hq
  exact kk r m' hq
/-- calls whose answer and memory are given outright -/
theorem zS_invsE {i : Nat} {mt' : zMT} {avs : List zAV} {rv : Option zAV} {mem' : zMem} (hd : decode mt.2.1 pc = .ok (.invokestatic i, 3) ∧ pc + 3 = n) (hl1 : Cond.methodLink mt.1.cls i mt'.1 ∈ zwsG) (hm : zMs mt' avs.length) (hst : avs.reverse ++ st = st0) (hrk : zrk mt mt' u = true) (hcs : Nat.ble (zcs st) 8 = true) (hu : u = (u.1 + (zrm mt').cells, u.2 + (zrm mt').slots)) (sp : zF mt' avs mem (fun r m => r = rv ∧ m = mem'))
    (kk : zS P mt u n L (rv.toList ++ st) mem' Q) : zS P mt u pc L st0 mem Q :=
  zS_invs hd hl1 hm hst hrk hcs hu sp (fun r m' hq => by obtain ⟨rfl, rfl⟩ := hq; exact kk)
theorem zS_invvE {i c m9 : Nat} {mt' : zMT} {avs : List zAV} {rv : Option zAV} {mem' : zMem} (hd : decode mt.2.1 pc = .ok (.invokevirtual i, 3) ∧ pc + 3 = n) (hl1 : Cond.methodLink mt.1.cls i mt'.1 ∈ zwsG) (hm : zMv mt' avs.length c) (hk : zkd zSH a = (c, m9)) (hst : avs.reverse ++ (2, a) :: st = st0) (hrk : zrk mt mt' u = true) (hcs : Nat.ble (zcs st) 8 = true) (hu : u = (u.1 + (zrm mt').cells, u.2 + (zrm mt').slots)) (sp : zF mt' ((2, a) :: avs) mem (fun r m => r = rv ∧ m = mem'))
    (kk : zS P mt u n L (rv.toList ++ st) mem' Q) : zS P mt u pc L st0 mem Q :=
  zS_invv hd hl1 hm hk hst hrk hcs hu sp (fun r m' hq => by obtain ⟨rfl, rfl⟩ := hq; exact kk)
end zSTAT
