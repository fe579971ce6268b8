/-! calls -/
def zrk (mt mt' : zMT) (u : Nat × Nat) : Bool := Nat.ble (mt'.2.2.2.2.1 + 1) mt.2.2.2.2.1 && (Nat.ble (8 + (mt'.2.2.1 + 11) + mt'.2.2.2.2.2.1) mt.2.2.2.2.2.1 && (Nat.ble (u.1 + mt'.2.2.2.2.2.2.1) mt.2.2.2.2.2.2.1 && Nat.ble (u.2 + mt'.2.2.2.2.2.2.2) mt.2.2.2.2.2.2.2))
theorem zrk_spec {mt mt' : zMT} {u : Nat × Nat} (h : zrk mt mt' u = true) : ((zrm mt').frames + 1 ≤ (zrm mt).frames ∧ 8 + (mt'.2.2.1 + 11) + (zrm mt').locals ≤ (zrm mt).locals) ∧ (u.1 + (zrm mt').cells ≤ (zrm mt).cells ∧ u.2 + (zrm mt').slots ≤ (zrm mt).slots) := by
  unfold zrk at h
  simp only [Bool.and_eq_true] at h
  exact ⟨⟨Nat.le_of_ble_eq_true h.1, Nat.le_of_ble_eq_true h.2.1⟩, Nat.le_of_ble_eq_true h.2.2.1, Nat.le_of_ble_eq_true h.2.2.2⟩
def zcs : List zAV → Nat
  | [] => 0
  | v :: l => (if v.1 = 1 then 2 else 1) + zcs l
theorem zcs_spec (X : zCT) (st : List zAV) : ((st.map (zcV X)).map fun v => v.category).sum = zcs st := by
  induction st with
  | nil => rfl
  | cons v l ih =>
    have hc := zcat X v
    rw [List.map_cons, List.map_cons, List.sum_cons, ih]
    show _ = (if v.1 = 1 then 2 else 1) + zcs l
    congr 1
    by_cases h : v.1 = 1
    · rw [if_pos h, hc.mpr h]
    · rw [if_neg h]
      rcases lv_cat (zcV X v) with q | q
      · exact q
      · exact absurd (hc.mp q) h
/-- what the tables say of a method -/
def zMk (mt : zMT) (n : Nat) : Prop := Cond.initialized mt.1.cls ∈ zwsG ∧ Cond.code mt.1 mt.2.1 mt.2.2.1 mt.2.2.2.1 ∈ zwsG ∧ (mt.1.cls ≠ "java/lang/invoke/MethodHandle" ∧ mt.1.cls ≠ "java/lang/invoke/VarHandle" ∧ (parseMethodDescriptor mt.1.desc).map (fun d => d.parameters.length) = some n)
def zMs (mt : zMT) (n : Nat) : Prop := zMk mt n ∧ Cond.static mt.1 ∈ zwsG
def zMv (mt : zMT) (n c : Nat) : Prop := zMk mt n ∧ Cond.instanceMethod mt.1 ∈ zwsG ∧ Cond.selects mt.1.cls mt.1 mt.1 ∈ zwsG ∧ c < 12 ∧ (zcl c).1 = mt.1.cls
def zMi (mt : zMT) (n : Nat) : Prop := zMk mt n ∧ Cond.instanceMethod mt.1 ∈ zwsG ∧ mt.1.name = "<init>" ∧ mt.2.2.2.1 = none
theorem zPc_blind (X : zCT) (avs : List zAV) (sh : zSh) (mem : zMem) : FrameBlind (zPc X avs sh mem) := fun a U g mk q => ⟨q.1, zK_calling g mk a q.2.1, q.2.2⟩
theorem zGood (mt : zMT) {n : Nat} (h : zMk mt n) : GoodIn zwsG (zws mt) := zgood (fun w hw => by
  rcases List.mem_cons.mp hw with rfl | hw
  · exact h.2.1
  · exact hw)
section zCALL
variable {P : zCT → Prop} {mt mt' : zMT} {sh : zSh} {u : Nat × Nat} {pc n : Nat} {L L' : List (Option zAV)} {st st0 : List zAV} {mem : zMem} {Q Q' : zQT} {a b : Int} {avs : List zAV}
theorem zV_back {X : zCT} {p : Program} {l : Launch} {ev : Env} {s : State} {m : MethodId} {args : Array Value} {below : List Frame} {meth : Method} {c : Code} {Z : State → Prop} {H : Heap} {locs : List Loc} {ls : Array Slot} {u' : Nat × Nat} {a9 : Array Value} {st9 : List Value} (hu : u' = (u.1 + (zrm mt').cells, u.2 + (zrm mt').slots)) (hP : P X) (C : zC mt X p s m args meth c) (R : zR mt X Q p l ev s m args below meth c Z) (hl : zlo X locs) (hL : zL X ls mt.2.2.1 L)
    (hr : va_Run p l ev (zrm mt) s m args below meth c H locs u.1 u.2 (zrm mt').cells (zrm mt').slots (F0 m pc ls st9) (st.map (zcV X)) (zQc X Q' a9) (fun q => X.2.1.size ≤ q))
    (kk : ∀ r sh' mem', Q' r sh' mem' → zV P mt sh' u' (pc + 3) L (r.toList ++ st) mem' Q) : W p l ev (zrm mt) s m args below meth c H locs u.1 u.2 Z (F0 m pc ls st9) := by
  intro T hT XT
  obtain ⟨v, st₀, t, T', L9, h0, X', hL9, e1, e2, ⟨r, sh', mem', hv, hq, hh⟩, hgo⟩ := hr T hT XT
  cases hv
  have h5 := kk r sh' mem' hq X p l ev s m args below meth c Z hP C R T'.heap (locs ++ L9) ls (by rw [e1]; exact hh) (fun q hq => by
    rcases List.mem_append.mp hq with h | h
    · exact hl q h
    · exact hL9 q h) hL
  subst hu
  obtain ⟨t2, a1, b1⟩ := h5 T' rfl X'
  refine ⟨t2, hgo t2 ?_, b1⟩
  have e : (r.toList ++ st).map (zcV X) = (r.map (zcV X)).toList ++ st.map (zcV X) := by cases r <;> simp
  rw [e] at a1
  exact a1
theorem zV_invs {i : Nat} {u' : Nat × Nat} (mt' : zMT) (avs : List zAV) (hd : decode mt.2.1 pc = .ok (.invokestatic i, 3) ∧ pc + 3 = n) (hl1 : Cond.methodLink mt.1.cls i mt'.1 ∈ zwsG) (hm : zMs mt' avs.length) (hst : avs.reverse ++ st = st0) (hrk : zrk mt mt' u = true) (hcs : Nat.ble (zcs st) 8 = true) (hu : u' = (u.1 + (zrm mt').cells, u.2 + (zrm mt').slots)) (sp : zSp mt' avs sh mem Q')
    (kk : ∀ r sh' mem', Q' r sh' mem' → zV P mt sh' u' n L (r.toList ++ st) mem' Q) : zV P mt sh u pc L st0 mem Q := by
  intro X p l ev s m args below meth c Z hP C R H locs ls hH hl hL
  rw [← hd.2] at kk
  obtain ⟨hR, hf⟩ := zrk_spec hrk
  have hts := C.2.2.2.2.2.2.1
  have cb : CallB (zrm mt) s args mt.1.cls i mt'.1 mt'.2.1 mt'.2.2.1 mt'.2.2.2.1 (zws mt') (zrm mt') (zrm mt').cells (zrm mt').slots avs.length :=
    callB_of avs.length hts (zGood mt' hm.1) rfl rfl rfl (hts _ hm.1.1) (hts _ hl1) hm.1.2.2 hR
  refine zV_back hu hP C R hl hL (va_runS (As := avs.map (zcV X)) (rest := st.map (zcV X)) ⟨C.1, C.2.1, C.2.2.1, C.2.2.2.2.2.1, hts⟩ (sp l X) ⟨cb, hts _ hm.2⟩ ⟨zPc_blind X avs sh mem, fun U hU hW => ⟨rfl, zK_moved hW C.2.2.2.2.2.2.2.1, by rw [hU]; exact hH⟩⟩ rfl (by simp) hL.1 ?_ ?_ hd.1 hf) kk
  · show st0.map (zcV X) = _
    rw [← hst]; simp
  · exact lv_room (by rw [zcs_spec]; exact Nat.le_of_ble_eq_true hcs)
theorem zV_invv {i c m9 : Nat} {u' : Nat × Nat} (mt' : zMT) (avs : List zAV) (hd : decode mt.2.1 pc = .ok (.invokevirtual i, 3) ∧ pc + 3 = n) (hl1 : Cond.methodLink mt.1.cls i mt'.1 ∈ zwsG) (hm : zMv mt' avs.length c) (hk : zkd sh a = (c, m9)) (hst : avs.reverse ++ (2, a) :: st = st0) (hrk : zrk mt mt' u = true) (hcs : Nat.ble (zcs st) 8 = true) (hu : u' = (u.1 + (zrm mt').cells, u.2 + (zrm mt').slots)) (sp : zSp mt' ((2, a) :: avs) sh mem Q')
    (kk : ∀ r sh' mem', Q' r sh' mem' → zV P mt sh' u' n L (r.toList ++ st) mem' Q) : zV P mt sh u pc L st0 mem Q := by
  intro X p l ev s m args below meth cq Z hP C R H locs ls hH hl hL
  rw [← hd.2] at kk
  obtain ⟨hR, hf⟩ := zrk_spec hrk
  have hts := C.2.2.2.2.2.2.1
  obtain ⟨hm1, hm2, hm3, hc, hcn⟩ := hm
  obtain ⟨i', rfl, h2, h3, h4⟩ := zat (X := X) (mem := mem) hk (by show c < 99; omega)
  obtain ⟨w1, w2, w3, w4, w5⟩ := zcl_ok c hc
  rw [zE_cls X mem i' c m9 hc] at h3
  have cb : CallB (zrm mt) s args mt.1.cls i mt'.1 mt'.2.1 mt'.2.2.1 mt'.2.2.2.1 (zws mt') (zrm mt') (zrm mt').cells (zrm mt').slots avs.length :=
    callB_of avs.length hts (zGood mt' hm1) rfl rfl rfl (hts _ hm1.1) (hts _ hl1) hm1.2.2 hR
  have hrecv := va_recv C.2.2.2.2.2.2.2.1.1 hH.1 w1 h3
  rw [hcn] at hrecv
  refine zV_back hu hP C R hl hL (va_runV (C := mt'.1.cls) (b := X.2.1.size + i') (As := avs.map (zcV X)) (rest := st.map (zcV X)) ⟨C.1, C.2.1, C.2.2.1, C.2.2.2.2.2.1, hts⟩ (sp l X) ⟨cb, hts _ hm2, hts _ hm3⟩ ⟨zPc_blind X _ sh mem, hrecv, fun U hU hW => ⟨by rw [List.map_cons, h4], zK_moved hW C.2.2.2.2.2.2.2.1, by rw [hU]; exact hH⟩⟩ rfl (by simp) hL.1 ?_ ?_ hd.1 hf) kk
  · show st0.map (zcV X) = _
    rw [← hst]; simp [h4]
  · exact lv_room (by rw [zcs_spec]; exact Nat.le_of_ble_eq_true hcs)
theorem zV_invi {i c m9 : Nat} {u' : Nat × Nat} (mt' : zMT) (avs : List zAV) (hd : decode mt.2.1 pc = .ok (.invokespecial i, 3) ∧ pc + 3 = n) (hl1 : Cond.methodLink mt.1.cls i mt'.1 ∈ zwsG ∨ (mt.1.cls, i, mt'.1, "CellPlane") ∈ znest) (hm : zMi mt' avs.length) (hk : zkd sh a = (c, m9)) (hc : c < 12) (hst : avs.reverse ++ (2, a) :: st = st0) (hrk : zrk mt mt' u = true) (hcs : Nat.ble (zcs st) 8 = true) (hu : u' = (u.1 + (zrm mt').cells, u.2 + (zrm mt').slots)) (sp : zSp mt' ((2, a) :: avs) sh mem Q')
    (kk : ∀ r sh' mem', Q' r sh' mem' → zV P mt sh' u' n L (r.toList ++ st) mem' Q) : zV P mt sh u pc L st0 mem Q := by
  intro X p l ev s m args below meth cq Z hP C R H locs ls hH hl hL
  rw [← hd.2] at kk
  obtain ⟨hR, hf⟩ := zrk_spec hrk
  have hts := C.2.2.2.2.2.2.1
  obtain ⟨hm1, hm2, hm3, hm4⟩ := hm
  obtain ⟨i', rfl, h2, h3, h4⟩ := zat (X := X) (mem := mem) hk (by show c < 99; omega)
  have hG := zGood mt' hm1
  have hpc := zPc_blind X ((2, (i' : Int)) :: avs) sh mem
  have hpre : ∀ U : State, U.heap = H → s.WarmedH U.vm → zPc X ((2, (i' : Int)) :: avs) sh mem (Value.ref (X.2.1.size + i') :: avs.map (zcV X)).toArray U := fun U hU hW => ⟨by rw [List.map_cons, h4], zK_moved hW C.2.2.2.2.2.2.2.1, by rw [hU]; exact hH⟩
  have hsk : st0.map (zcV X) = (avs.map (zcV X)).reverse ++ .ref (X.2.1.size + i') :: st.map (zcV X) := by rw [← hst]; simp [h4]
  have hrm := lv_room (m := m) (pc := pc) (ls := ls) (rest := st0.map (zcV X)) (st := st.map (zcV X)) (by rw [zcs_spec]; exact Nat.le_of_ble_eq_true hcs)
  rcases hl1 with hl1 | hl1
  · have cb : CallB (zrm mt) s args mt.1.cls i mt'.1 mt'.2.1 mt'.2.2.1 none (zws mt') (zrm mt') (zrm mt').cells (zrm mt').slots avs.length :=
      callB_of avs.length hts hG (by unfold zws; rw [hm4]) rfl rfl (hts _ hm1.1) (hts _ hl1) hm1.2.2 hR
    exact zV_back hu hP C R hl hL (va_runI (b := X.2.1.size + i') (As := avs.map (zcV X)) (rest := st.map (zcV X)) ⟨C.1, C.2.1, C.2.2.1, C.2.2.2.2.2.1, hts⟩ (sp l X) ⟨cb, hm3, hts _ hm2⟩ ⟨hpc, hpre⟩ rfl (by simp) hL.1 hsk hrm hd.1 hf) kk
  · have cb : va_CN (zrm mt) s args mt.1.cls i mt'.1 "CellPlane" mt'.2.1 mt'.2.2.1 none (zws mt') (zrm mt') (zrm mt').cells (zrm mt').slots avs.length :=
      va_cnB avs.length hts hG (by unfold zws; rw [hm4]) rfl rfl (C.2.2.2.2.2.2.2.1.2.2.1 _ hl1) (hts _ hm1.1) hm1.2.2 hR
    exact zV_back hu hP C R hl hL (va_runIN (b := X.2.1.size + i') (As := avs.map (zcV X)) (rest := st.map (zcV X)) ⟨C.1, C.2.1, C.2.2.1, C.2.2.2.2.2.1, hts⟩ (sp l X) ⟨cb, hm3, hts _ hm2⟩ ⟨hpc, hpre⟩ rfl (by simp) hL.1 hsk hrm hd.1 hf) kk
theorem zV_obj {i c m9 : Nat} (hd : decode mt.2.1 pc = .ok (.invokespecial i, 3) ∧ pc + 3 = n) (hl1 : Cond.methodLink mt.1.cls i objectInit ∈ zwsG) (hl2 : Cond.instanceMethod objectInit ∈ zwsG) (hl3 : Cond.code objectInit ⟨#[0xb1]⟩ 1 none ∈ zwsG) (hk : zkd sh a = (c, m9)) (hc : c < 12) (hcs : Nat.ble (zcs st) 8 = true) (hrm : 1 ≤ (zrm mt).frames ∧ 20 ≤ (zrm mt).locals) (kk : zV P mt sh u n L st mem Q) : zV P mt sh u pc L ((2, a) :: st) mem Q := by
  intro X p l ev s m args below meth cq Z hP C R H locs ls hH hl hL
  rw [← hd.2] at kk
  have hts := C.2.2.2.2.2.2.1
  obtain ⟨i', rfl, h2, h3, h4⟩ := zat (X := X) (mem := mem) hk (by show c < 99; omega)
  have h5 := kk X p l ev s m args below meth cq Z hP C R H locs ls hH hl hL
  have hcs' := Nat.le_of_ble_eq_true hcs
  rw [List.map_cons, h4]
  refine W.objInit C.1 C.2.1 C.2.2.2.2.2.1 (hts _ hl1) (hts _ hl2) (hts _ hl3) rfl (hL.1.trans C.2.2.1.symm) rfl hd.1 hrm.1 ?_ h5
  have := lv_room (m := m) (pc := pc) (ls := ls) (rest := .ref (X.2.1.size + i') :: st.map (zcV X)) (st := st.map (zcV X)) (by rw [zcs_spec]; exact hcs')
  omega
/-! bits -/
theorem i32_mask (a : Int) (k : Nat) (m : Int32) (hm : m.toBitVec.toNat = 2 ^ k - 1) (hk : k ≤ 31) : Int32.ofInt a &&& m = Int32.ofInt (a % (2 ^ k : Int)) := by
  rw [pk_and _ k hm]
  have h1 : ((Int32.ofInt a).toBitVec.toNat : Int) = a % 4294967296 := by
    rw [Int32.toBitVec_ofInt, BitVec.toNat_ofInt]
    have : (0 : Int) ≤ a % 4294967296 := by omega
    show ((a % ((2 ^ 32 : Nat) : Int)).toNat : Int) = _
    have e : ((2 ^ 32 : Nat) : Int) = 4294967296 := by decide
    rw [e]
    omega
  have h2 : (((Int32.ofInt a).toBitVec.toNat % 2 ^ k : Nat) : Int) = a % (2 ^ k : Int) := by
    rw [Int.natCast_emod, h1]
    have hd : ((2 ^ k : Nat) : Int) ∣ 4294967296 := by
      have : (2 ^ k : Nat) ∣ 2 ^ 32 := Nat.pow_dvd_pow 2 (by omega)
      have h3 := Int.natCast_dvd_natCast.mpr this
      exact h3
    rw [Int.emod_emod_of_dvd a hd]
    simp
  rw [← h2, Int32.ofInt_eq_ofNat]
  rfl
theorem zV_iand (k9 : Nat) (hd : decode mt.2.1 pc = .ok (.iand, 1) ∧ pc + 1 = n) (hb : (Int32.ofInt b).toBitVec.toNat = 2 ^ k9 - 1 ∧ Nat.ble k9 31 = true) (k : zV P mt sh u n L ((0, a % (2 ^ k9 : Int)) :: st) mem Q) : zV P mt sh u pc L ((0, b) :: (0, a) :: st) mem Q := by
  intro X p l ev s m args below meth c Z hP C R H locs ls hH hl hL
  rw [← hd.2] at k
  have h2 := k X p l ev s m args below meth c Z hP C R H locs ls hH hl hL
  have e : zcV X (0, a % (2 ^ k9 : Int)) = .int (Int32.ofInt a &&& Int32.ofInt b) := by
    show Value.int (Int32.ofInt _) = _
    rw [i32_mask a k9 _ hb.1 (Nat.le_of_ble_eq_true hb.2)]
  rw [List.map_cons, e] at h2
  exact lv_iand C.1 C.2.1 hd.1 h2
theorem i64_mask (a : Int) (k : Nat) (m : Int64) (hm : m.toBitVec.toNat = 2 ^ k - 1) (hk : k ≤ 63) : Int64.ofInt a &&& m = Int64.ofInt (a % (2 ^ k : Int)) := by
  apply Int64.toBitVec_inj.mp
  apply BitVec.eq_of_toNat_eq
  have h1 : ((Int64.ofInt a).toBitVec.toNat : Int) = a % 18446744073709551616 := by
    rw [Int64.toBitVec_ofInt, BitVec.toNat_ofInt]
    have : (0 : Int) ≤ a % 18446744073709551616 := by omega
    show ((a % ((2 ^ 64 : Nat) : Int)).toNat : Int) = _
    have e : ((2 ^ 64 : Nat) : Int) = 18446744073709551616 := by decide
    rw [e]
    omega
  have hd : ((2 ^ k : Nat) : Int) ∣ 18446744073709551616 := by
    have : (2 ^ k : Nat) ∣ 2 ^ 64 := Nat.pow_dvd_pow 2 (by omega)
    have h3 := Int.natCast_dvd_natCast.mpr this
    exact h3
  rw [Int64.toBitVec_and, BitVec.toNat_and, hm, Nat.and_two_pow_sub_one_eq_mod]
  apply Int.ofNat_inj.mp
  rw [Int.natCast_emod, h1, Int.emod_emod_of_dvd a hd, Int64.toBitVec_ofInt, BitVec.toNat_ofInt]
  have e : ((2 ^ 64 : Nat) : Int) = 18446744073709551616 := by decide
  have e2 : ((2 ^ k : Nat) : Int) = (2 ^ k : Int) := by simp
  rw [e2]
  have hle : (2 ^ k : Int) ≤ 18446744073709551616 := by
    have h3 : (2 ^ k : Nat) ≤ 2 ^ 64 := Nat.pow_le_pow_right (by decide) (by omega)
    have h4 : ((2 ^ k : Nat) : Int) ≤ ((2 ^ 64 : Nat) : Int) := by exact_mod_cast h3
    rw [e2, e] at h4
    exact h4
  have hpos : (0 : Int) < 2 ^ k := by
    have h3 : 0 < (2 ^ k : Nat) := Nat.pow_pos (by decide)
    have h4 : (0 : Int) < ((2 ^ k : Nat) : Int) := by exact_mod_cast h3
    rw [e2] at h4
    exact h4
  have h0 := Int.emod_nonneg a (Int.ne_of_gt hpos)
  have h9 := Int.emod_lt_of_pos a hpos
  show _ = ((a % (2 ^ k : Int) % ((2 ^ 64 : Nat) : Int)).toNat : Int)
  rw [e, Int.emod_eq_of_lt h0 (by omega)]
  omega
theorem zV_land (k9 : Nat) (hd : decode mt.2.1 pc = .ok (.land, 1) ∧ pc + 1 = n) (hb : (Int64.ofInt b).toBitVec.toNat = 2 ^ k9 - 1 ∧ Nat.ble k9 63 = true) (k : zV P mt sh u n L ((1, a % (2 ^ k9 : Int)) :: st) mem Q) : zV P mt sh u pc L ((1, b) :: (1, a) :: st) mem Q := by
  intro X p l ev s m args below meth c Z hP C R H locs ls hH hl hL
  rw [← hd.2] at k
  have h2 := k X p l ev s m args below meth c Z hP C R H locs ls hH hl hL
  have e : zcV X (1, a % (2 ^ k9 : Int)) = .long (Int64.ofInt a &&& Int64.ofInt b) := by
    show Value.long (Int64.ofInt _) = _
    rw [i64_mask a k9 _ hb.1 (Nat.le_of_ble_eq_true hb.2)]
  rw [List.map_cons, e] at h2
  exact lv_land C.1 C.2.1 hd.1 h2
/-- 1 shifted left; a small number shifted right; or of small numbers; a long shifted right by one: by cases over the literal amount -/
theorem zV_ishl (v : Int) (hd : decode mt.2.1 pc = .ok (.ishl, 1) ∧ pc + 1 = n) (hv : Int32.ofInt a <<< (Int32.ofInt b &&& 31) = Int32.ofInt v) (k : zV P mt sh u n L ((0, v) :: st) mem Q) : zV P mt sh u pc L ((0, b) :: (0, a) :: st) mem Q := by
  intro X p l ev s m args below meth c Z hP C R H locs ls hH hl hL
  rw [← hd.2] at k
  have h2 := k X p l ev s m args below meth c Z hP C R H locs ls hH hl hL
  have e : zcV X (0, v) = .int (Int32.ofInt a <<< (Int32.ofInt b &&& 31)) := by
    show Value.int (Int32.ofInt _) = _
    rw [hv]
  rw [List.map_cons, e] at h2
  exact lv_ishl C.1 C.2.1 hd.1 h2
theorem zV_ishr (v : Int) (hd : decode mt.2.1 pc = .ok (.ishr, 1) ∧ pc + 1 = n) (hv : Int32.ofInt a >>> (Int32.ofInt b &&& 31) = Int32.ofInt v) (k : zV P mt sh u n L ((0, v) :: st) mem Q) : zV P mt sh u pc L ((0, b) :: (0, a) :: st) mem Q := by
  intro X p l ev s m args below meth c Z hP C R H locs ls hH hl hL
  rw [← hd.2] at k
  have h2 := k X p l ev s m args below meth c Z hP C R H locs ls hH hl hL
  have e : zcV X (0, v) = .int (Int32.ofInt a >>> (Int32.ofInt b &&& 31)) := by
    show Value.int (Int32.ofInt _) = _
    rw [hv]
  rw [List.map_cons, e] at h2
  exact lv_ishr C.1 C.2.1 hd.1 h2
theorem zV_ior (v : Int) (hd : decode mt.2.1 pc = .ok (.ior, 1) ∧ pc + 1 = n) (hv : Int32.ofInt a ||| Int32.ofInt b = Int32.ofInt v) (k : zV P mt sh u n L ((0, v) :: st) mem Q) : zV P mt sh u pc L ((0, b) :: (0, a) :: st) mem Q := by
  intro X p l ev s m args below meth c Z hP C R H locs ls hH hl hL
  rw [← hd.2] at k
  have h2 := k X p l ev s m args below meth c Z hP C R H locs ls hH hl hL
  have e : zcV X (0, v) = .int (Int32.ofInt a ||| Int32.ofInt b) := by
    show Value.int (Int32.ofInt _) = _
    rw [hv]
  rw [List.map_cons, e] at h2
  exact lv_ior C.1 C.2.1 hd.1 h2
theorem zV_lshr (v : Int) (hd : decode mt.2.1 pc = .ok (.lshr, 1) ∧ pc + 1 = n) (hv : Int64.ofInt a >>> ((Int32.ofInt b).toInt64 &&& 63) = Int64.ofInt v) (k : zV P mt sh u n L ((1, v) :: st) mem Q) : zV P mt sh u pc L ((0, b) :: (1, a) :: st) mem Q := by
  intro X p l ev s m args below meth c Z hP C R H locs ls hH hl hL
  rw [← hd.2] at k
  exact lv_lshr C.1 C.2.1 hd.1 hv (k X p l ev s m args below meth c Z hP C R H locs ls hH hl hL)
theorem zV_ixor (v : Int) (hd : decode mt.2.1 pc = .ok (.ixor, 1) ∧ pc + 1 = n) (hv : Int32.ofInt a ^^^ Int32.ofInt b = Int32.ofInt v) (k : zV P mt sh u n L ((0, v) :: st) mem Q) : zV P mt sh u pc L ((0, b) :: (0, a) :: st) mem Q := by
  intro X p l ev s m args below meth c Z hP C R H locs ls hH hl hL
  rw [← hd.2] at k
  have h2 := k X p l ev s m args below meth c Z hP C R H locs ls hH hl hL
  have e : zcV X (0, v) = .int (Int32.ofInt a ^^^ Int32.ofInt b) := by
    show Value.int (Int32.ofInt _) = _
    rw [hv]
  rw [List.map_cons, e] at h2
  exact lv_ixor C.1 C.2.1 hd.1 h2
theorem zV_lxor (v : Int) (hd : decode mt.2.1 pc = .ok (.lxor, 1) ∧ pc + 1 = n) (hv : Int64.ofInt a ^^^ Int64.ofInt b = Int64.ofInt v) (k : zV P mt sh u n L ((1, v) :: st) mem Q) : zV P mt sh u pc L ((1, b) :: (1, a) :: st) mem Q := by
  intro X p l ev s m args below meth c Z hP C R H locs ls hH hl hL
  rw [← hd.2] at k
  have h2 := k X p l ev s m args below meth c Z hP C R H locs ls hH hl hL
  have e : zcV X (1, v) = .long (Int64.ofInt a ^^^ Int64.ofInt b) := by
    show Value.long (Int64.ofInt _) = _
    rw [hv]
  rw [List.map_cons, e] at h2
  exact lv_lxor C.1 C.2.1 hd.1 h2
end zCALL
