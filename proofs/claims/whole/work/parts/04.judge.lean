/-! contexts, the judgement zV, contracts zSp -/
def znest : List (String × Nat × MethodName × String) := [("CellPlane", 11, yX5_init, "CellPlane"), ("CellPlane$Row", 21, yX0_init, "CellPlane"), ("CellPlane", 31, yX9_init, "CellPlane"), ("CellPlane$Stacks", 50, yX7_init, "CellPlane"), ("CellPlane", 51, yX3_init, "CellPlane"), ("CellPlane", 58, yX4_init, "CellPlane"), ("CellPlane", 65, yX1_init, "CellPlane"), ("CellPlane", 72, yX6_init, "CellPlane")]
def zK (X : zCT) (U : State) : Prop := va_K (X.2.2.1, X.2.2.2.1) vwCl (ztys X) U ∧ (va_X X.1 X.2.2.2.2.2.1 X.2.2.2.2.2.2 U X.2.1 ∧ X.1 < X.2.1.size) ∧ (∀ q ∈ znest, va_Nw (.methodLinkNest q.1 q.2.1 q.2.2.1 q.2.2.2) U) ∧ va_AO "CellPlane$Curve" U ∧ va_AO "CellPlane$Root" U
theorem zK_moved {X : zCT} {s U : State} (hW : s.WarmedH U.vm) (h : zK X s) : zK X U :=
  ⟨va_K.moved hW.alike h.1, ⟨va_X.moved hW.alike h.2.1.1, h.2.1.2⟩, fun q hq => va_Nw.warmM hW (h.2.2.1 q hq), va_AO.moved hW.alike h.2.2.2.1, va_AO.moved hW.alike h.2.2.2.2⟩
theorem zK_calling {X : zCT} {U : State} (g : JFrame) (mk : MethodId) (a : Array Value) (h : zK X U) : zK X (U.calling g mk a) :=
  ⟨va_K.moved (u := U) (U := U.calling g mk a) (Vm.Alike.refl U.vm) h.1, ⟨va_X.moved (u := U) (U := U.calling g mk a) (Vm.Alike.refl U.vm) h.2.1.1, h.2.1.2⟩, fun q hq => va_Nw.same rfl (u := U) (U := U.calling g mk a) rfl (h.2.2.1 q hq), va_AO.moved (u := U) (U := U.calling g mk a) (Vm.Alike.refl U.vm) h.2.2.2.1, va_AO.moved (u := U) (U := U.calling g mk a) (Vm.Alike.refl U.vm) h.2.2.2.2⟩
def zgl : List (Option zAV) → Nat → Option zAV
  | [], _ => none
  | x :: _, 0 => x
  | _ :: l, n + 1 => zgl l n
def zsl : List (Option zAV) → Nat → Option zAV → List (Option zAV)
  | [], _, _ => []
  | _ :: l, 0, x => x :: l
  | y :: l, n + 1, x => y :: zsl l n x
def zcp (L : List (Option zAV)) (i : Nat) : List (Option zAV) := match i with
  | 0 => L
  | j + 1 => match zgl L j with
    | some (1, _) => zsl L j none
    | _ => L
def zs1 (L : List (Option zAV)) (i : Nat) (v : zAV) : List (Option zAV) := zsl (zcp L i) i (some v)
def zs2 (L : List (Option zAV)) (i : Nat) (v : zAV) : List (Option zAV) := zsl (zsl (zcp L i) i (some v)) (i + 1) none
theorem zgl_sl (L : List (Option zAV)) (x : Option zAV) : ∀ (i j : Nat) (v : zAV), zgl (zsl L i x) j = some v → (j = i ∧ x = some v) ∨ (j ≠ i ∧ zgl L j = some v) := by
  induction L with
  | nil => intro i j v h; simp [zsl, zgl] at h
  | cons y l ih =>
    intro i j v h
    cases i with
    | zero =>
      cases j with
      | zero => exact Or.inl ⟨rfl, h⟩
      | succ j => exact Or.inr ⟨by omega, h⟩
    | succ i =>
      cases j with
      | zero => exact Or.inr ⟨by omega, h⟩
      | succ j =>
        rcases ih i j v h with ⟨a, b⟩ | ⟨a, b⟩
        · exact Or.inl ⟨by omega, b⟩
        · exact Or.inr ⟨by omega, b⟩
theorem zgl_cp (L : List (Option zAV)) (i j : Nat) (v : zAV) (h : zgl (zcp L i) j = some v) : zgl L j = some v ∧ ¬ (j + 1 = i ∧ v.1 = 1) := by
  cases i with
  | zero => exact ⟨h, fun q => by omega⟩
  | succ k =>
    have key : zgl (match zgl L k with
      | some (1, _) => zsl L k none
      | _ => L) j = some v := h
    cases hk : zgl L k with
    | none =>
      rw [hk] at key
      refine ⟨key, fun q => ?_⟩
      have e : j = k := by omega
      subst e
      rw [hk] at key
      cases key
    | some w =>
      obtain ⟨t, x⟩ := w
      by_cases ht : t = 1
      · subst ht
        rw [hk] at key
        rcases zgl_sl L none k j v key with ⟨_, b⟩ | ⟨a, b⟩
        · cases b
        · exact ⟨b, fun q => a (by omega)⟩
      · rw [hk] at key
        have key2 : zgl L j = some v := by
          split at key
          · next h9 => cases h9; exact absurd rfl ht
          · exact key
        refine ⟨key2, fun q => ?_⟩
        have e : j = k := by omega
        subst e
        rw [hk] at key2
        cases key2
        exact ht q.2
def zL (X : zCT) (ls : Array Slot) (n : Nat) (L : List (Option zAV)) : Prop := ls.size = n ∧ lv_wf ls ∧ ∀ (i : Nat) (v : zAV), zgl L i = some v → ls[i]? = some (.val (zcV X v))
theorem zcat (X : zCT) (v : zAV) : (zcV X v).category = 2 ↔ v.1 = 1 := by
  obtain ⟨t, x⟩ := v
  match t with
  | 0 => simp [zcV, Value.category]
  | 1 => simp [zcV, Value.category]
  | t + 2 =>
    show (va_rf (zro X x)).category = 2 ↔ _
    cases zro X x <;> simp [va_rf, Value.category]
def zas (X : zCT) (n : Nat) (L : List (Option zAV)) : List (Nat × Value) := (List.range n).filterMap (fun i => (zgl L i).map (fun v => (i, zcV X v)))
theorem zgl_lt (L : List (Option zAV)) : ∀ (i : Nat) (v : zAV), zgl L i = some v → i < L.length := by
  induction L with
  | nil => intro i v h; simp [zgl] at h
  | cons x l ih =>
    intro i v h
    cases i with
    | zero => simp
    | succ i => have := ih i v h; simp; omega
theorem zas_mem {X : zCT} {n : Nat} {L : List (Option zAV)} {i : Nat} {v : zAV} (hi : i < n) (h : zgl L i = some v) : (i, zcV X v) ∈ zas X n L :=
  List.mem_filterMap.mpr ⟨i, List.mem_range.mpr hi, by rw [h]; rfl⟩
theorem zL_has {X : zCT} {ls : Array Slot} {n : Nat} {L : List (Option zAV)} (h : zL X ls n L) : lv_has ls n (zas X n L) := by
  refine ⟨h.1, h.2.1, fun q hq => ?_⟩
  obtain ⟨i, -, hi⟩ := List.mem_filterMap.mp hq
  obtain ⟨v, hv, rfl⟩ := Option.map_eq_some_iff.mp hi
  exact h.2.2 i v hv
theorem zL_s1 {X : zCT} {ls ls' : Array Slot} {n i : Nat} {L : List (Option zAV)} {v : zAV} (h : zL X ls n L) (h' : lv_has ls' n ((i, zcV X v) :: (zas X n L).filter (fun q => !(q.1 == i) && !(q.1 + 1 == i && q.2.category == 2)))) : zL X ls' n (zs1 L i v) := by
  refine ⟨h'.1, h'.2.1, fun j w hw => ?_⟩
  rcases zgl_sl _ _ i j w hw with ⟨a, b⟩ | ⟨a, b⟩
  · cases b
    subst a
    exact h'.2.2 _ List.mem_cons_self
  · obtain ⟨c1, c2⟩ := zgl_cp L i j w b
    have hj : j < n := by rw [← h.1]; exact lv_lt (h.2.2 j w c1)
    refine h'.2.2 (j, zcV X w) (List.mem_cons_of_mem _ (List.mem_filter.mpr ⟨zas_mem hj c1, ?_⟩))
    have hc := zcat X w
    simp only [Bool.and_eq_true, Bool.not_eq_true', beq_eq_false_iff_ne, ne_eq, Bool.and_eq_false_iff]
    refine ⟨a, ?_⟩
    by_cases e : j + 1 = i
    · exact Or.inr (fun q => c2 ⟨e, hc.mp q⟩)
    · exact Or.inl e
theorem zL_s2 {X : zCT} {ls ls' : Array Slot} {n i : Nat} {L : List (Option zAV)} {v : zAV} (h : zL X ls n L) (h' : lv_has ls' n ((i, zcV X v) :: (zas X n L).filter (fun q => !(q.1 == i) && (!(q.1 == i + 1) && !(q.1 + 1 == i && q.2.category == 2))))) : zL X ls' n (zs2 L i v) := by
  refine ⟨h'.1, h'.2.1, fun j w hw => ?_⟩
  rcases zgl_sl _ _ (i + 1) j w hw with ⟨_, b⟩ | ⟨a0, b0⟩
  · cases b
  · rcases zgl_sl _ _ i j w b0 with ⟨a, b⟩ | ⟨a, b⟩
    · cases b
      subst a
      exact h'.2.2 _ List.mem_cons_self
    · obtain ⟨c1, c2⟩ := zgl_cp L i j w b
      have hj : j < n := by rw [← h.1]; exact lv_lt (h.2.2 j w c1)
      refine h'.2.2 (j, zcV X w) (List.mem_cons_of_mem _ (List.mem_filter.mpr ⟨zas_mem hj c1, ?_⟩))
      have hc := zcat X w
      simp only [Bool.and_eq_true, Bool.not_eq_true', beq_eq_false_iff_ne, ne_eq, Bool.and_eq_false_iff]
      refine ⟨a, a0, ?_⟩
      by_cases e : j + 1 = i
      · exact Or.inr (fun q => c2 ⟨e, hc.mp q⟩)
      · exact Or.inl e
/-- the context of a method's body -/
def zC (mt : zMT) (X : zCT) (p : Program) (s : State) (m : MethodId) (args : Array Value) (meth : Method) (c : Code) : Prop :=
  p.tables.exec = Jvm.exec ∧ c.code = mt.2.1 ∧ c.maxLocals = mt.2.2.1 ∧ meth.sig.returnType = mt.2.2.2.1 ∧ meth.locks = false ∧ s.vm.findClass mt.1.cls = some m.cls ∧ (∀ w ∈ zwsG, w.before args s = true) ∧ zK X s ∧ (mt.1.name = "<init>" → meth.name = mt.1.name)
/-- what a return instruction gives back -/
def zri (mt : zMT) (i : Instr) (r : Option zAV) : Prop :=
  (i = .ireturn ∧ ∃ v : Int, r = some (0, v) ∧ (mt.2.2.2.1 = some .int ∨ (mt.2.2.2.1 = some .boolean ∧ (v = 0 ∨ v = 1)))) ∨ (i = .lreturn ∧ mt.2.2.2.1 = some .long ∧ ∃ v : Int, r = some (1, v)) ∨ (i = .return_ ∧ mt.2.2.2.1 = none ∧ r = none)
abbrev zQT : Type := Option zAV → zSh → zMem → Prop
def zlo (X : zCT) (locs : List Loc) : Prop := ∀ q ∈ locs, X.2.1.size ≤ q.base
def zR (mt : zMT) (X : zCT) (Q : zQT) (p : Program) (l : Launch) (e : Env) (s : State) (m : MethodId) (args : Array Value) (below : List Frame) (meth : Method) (c : Code) (Z : State → Prop) : Prop :=
  ∀ (pc : Nat) (ls : Array Slot) (H : Heap) (locs : List Loc) (cells slots : Nat) (r : Option zAV) (sh : zSh) (mem : zMem) (i : Instr), decode mt.2.1 pc = .ok (i, 1) → zri mt i r → zH X sh mem H → zlo X locs → cells ≤ (zrm mt).cells → slots ≤ (zrm mt).slots → Q r sh mem →
    W p l e (zrm mt) s m args below meth c H locs cells slots Z (F0 m pc ls (r.toList.map (zcV X)))
def zT : zCT → Prop := fun _ => True
def zV (P : zCT → Prop) (mt : zMT) (sh : zSh) (u : Nat × Nat) (pc : Nat) (L : List (Option zAV)) (st : List zAV) (mem : zMem) (Q : zQT) : Prop :=
  ∀ (X : zCT) (p : Program) (l : Launch) (e : Env) (s : State) (m : MethodId) (args : Array Value) (below : List Frame) (meth : Method) (c : Code) (Z : State → Prop), P X → zC mt X p s m args meth c → zR mt X Q p l e s m args below meth c Z →
    ∀ (H : Heap) (locs : List Loc) (ls : Array Slot), zH X sh mem H → zlo X locs → zL X ls mt.2.2.1 L → W p l e (zrm mt) s m args below meth c H locs u.1 u.2 Z (F0 m pc ls (st.map (zcV X)))
def zPc (X : zCT) (avs : List zAV) (sh : zSh) (mem : zMem) : Array Value → State → Prop := fun v U => v = (avs.map (zcV X)).toArray ∧ zK X U ∧ zH X sh mem U.heap
def zQc (X : zCT) (Q : zQT) : Array Value → State → Outcome → State → Prop := fun _ _ o t => ∃ (r : Option zAV) (sh : zSh) (mem : zMem), o = .returned (r.map (zcV X)) ∧ Q r sh mem ∧ zH X sh mem t.heap
def zSp (mt : zMT) (avs : List zAV) (sh : zSh) (mem : zMem) (Q : zQT) : Prop :=
  ∀ (l : Launch) (X : zCT), Met l mt.1 (zws mt) (zrm mt) (zPc X avs sh mem) (zQc X Q) (zrm mt).cells (zrm mt).slots (fun q => X.2.1.size ≤ q)
/-- the locals with which a method begins -/
def zal : List zAV → List (Option zAV)
  | [] => []
  | v :: vs => if v.1 = 1 then some v :: none :: zal vs else some v :: zal vs
theorem zal_args (X : zCT) (vs : List zAV) : ∀ (k i : Nat) (v : zAV), zgl (zal vs) i = some v → (k + i, zcV X v) ∈ lv_args k (vs.map (zcV X)) := by
  induction vs with
  | nil => intro k i v h; simp [zal, zgl] at h
  | cons w ws ih =>
    intro k i v h
    have hc := zcat X w
    unfold zal at h
    simp only [List.map_cons, lv_args]
    by_cases hw : w.1 = 1
    · rw [if_pos hw] at h
      rw [if_pos (hc.mpr hw)]
      match i, h with
      | 0, h => cases h; exact List.mem_cons_self
      | 1, h => cases h
      | i + 2, h =>
        have := ih (k + 2) i v h
        rw [show k + (i + 2) = k + 2 + i by omega]
        exact List.mem_cons_of_mem _ this
    · rw [if_neg hw] at h
      rw [if_neg (fun q => hw (hc.mp q))]
      match i, h with
      | 0, h => cases h; exact List.mem_cons_self
      | i + 1, h =>
        have := ih (k + 1) i v h
        rw [show k + (i + 1) = k + 1 + i by omega]
        exact List.mem_cons_of_mem _ this
theorem zgl_app (L M : List (Option zAV)) : ∀ (i : Nat) (v : zAV), zgl (L ++ List.replicate M.length none) i = some v → zgl L i = some v := by
  induction L with
  | nil =>
    intro i v h
    exfalso
    revert i
    induction M with
    | nil => intro i h; simp [zgl] at h
    | cons x l ih =>
      intro i h
      cases i with
      | zero => cases h
      | succ i => exact ih i h
  | cons x l ih =>
    intro i v h
    cases i with
    | zero => exact h
    | succ i => exact ih i v h
def zpad : Nat → List (Option zAV) → List (Option zAV)
  | 0, L => L
  | n + 1, [] => none :: zpad n []
  | n + 1, x :: L => x :: zpad n L
theorem zgl_pad : ∀ (n : Nat) (L : List (Option zAV)) (i : Nat) (v : zAV), zgl (zpad n L) i = some v → zgl L i = some v
  | 0, L, i, v, h => h
  | n + 1, [], 0, v, h => by cases h
  | n + 1, [], i + 1, v, h => by
    have := zgl_pad n [] i v h
    simp [zgl] at this
  | n + 1, x :: L, 0, v, h => h
  | n + 1, x :: L, i + 1, v, h => zgl_pad n L i v h
theorem zal_len (X : zCT) (vs : List zAV) : (lg_sl (vs.map (zcV X))).length = (zal vs).length := by
  induction vs with
  | nil => rfl
  | cons w ws ih =>
    have hc := zcat X w
    unfold zal
    by_cases hw : w.1 = 1
    · rw [if_pos hw]
      simp only [List.map_cons, lg_sl, List.flatMap_cons, if_pos (hc.mpr hw), List.length_append, List.length_cons, List.length_nil]
      have := ih
      simp only [lg_sl] at this
      omega
    · rw [if_neg hw]
      simp only [List.map_cons, lg_sl, List.flatMap_cons, if_neg (fun q => hw (hc.mp q)), List.length_append, List.length_cons, List.length_nil]
      have := ih
      simp only [lg_sl] at this
      omega
/-- a contract out of a walk -/
theorem zSp_of {mt : zMT} {avs : List zAV} {sh : zSh} {mem : zMem} {Q : zQT} (hy : plainName mt.1.cls = true) (hn : (zal avs).length ≤ mt.2.2.1) (hw : zV zT mt sh (0, 0) 0 (zpad mt.2.2.1 (zal avs)) [] mem Q) : zSp mt avs sh mem Q := by
  intro l X
  refine Met.ofW (cc := mt.2.1) (maxL := mt.2.2.1) (ret := mt.2.2.2.1) (ws' := zwsG) hy rfl ?_
  intro p e s m args below meth c s₁ B hml hv
  obtain ⟨rfl, hk, hh⟩ := hv
  have hts := atoms_spec (ws := zws mt) B.pre
  rw [lg_entry_eq]
  have hl := lv_entry (avs.map (zcV X)) (n := mt.2.2.1) (by rw [zal_len]; exact hn)
  generalize (lg_sl (avs.map (zcV X)) ++ List.replicate (mt.2.2.1 - (lg_sl (avs.map (zcV X))).length) Slot.unset).toArray = ls at hl ⊢
  have C : zC mt X p s m ((avs.map (zcV X)).toArray) meth c := ⟨B.exec, B.bytes, hml, B.returns, B.notSynchronized, findClass_of_methodNamed B.named, fun w h => hts w (List.mem_cons_of_mem _ h), hk, fun _ => (name_of_methodNamed B.named B.method).1⟩
  refine hw X p l e s m _ below meth c _ trivial C ?_ s.heap [] ls hh (fun q h => by cases h) ⟨hl.1, hl.2.1, fun i v h => ?_⟩
  · intro pc ls H locs cells slots r sh mem i hd hi hH hlo hc1 hc2 hq
    refine W.widen hc1 hc2 ?_
    rcases hi with ⟨rfl, v, rfl, hr⟩ | ⟨rfl, hr, v, rfl⟩ | ⟨rfl, hr, rfl⟩
    · have post : ∀ t : State, t.heap = H → s.WarmedH t.vm → zQc X Q ((avs.map (zcV X)).toArray) s (.returned (some (.int (Int32.ofInt v)))) t := fun t ht _ => ⟨some (0, v), sh, mem, rfl, hq, by rw [ht]; exact hH⟩
      rcases hr with hr | ⟨hr, hv⟩
      · exact W.iret B.exec B.bytes (B.returns.trans hr) post hlo hd B.notSynchronized
      · refine W.zret B.exec B.bytes (B.returns.trans hr) ?_ post hlo hd B.notSynchronized
        rcases hv with rfl | rfl
        · exact narrow_b0
        · exact narrow_b1
    · exact W.lret B.exec B.bytes (B.returns.trans hr) (fun t ht _ => ⟨some (1, v), sh, mem, rfl, hq, by rw [ht]; exact hH⟩) hlo hd B.notSynchronized
    · exact W.vret B.exec B.bytes (B.returns.trans hr) (fun t ht _ => ⟨none, sh, mem, rfl, hq, by rw [ht]; exact hH⟩) hlo hd B.notSynchronized
  · have h1 := zal_args X avs 0 i v (zgl_pad _ _ i v h)
    rw [Nat.zero_add] at h1
    exact hl.2.2 _ h1
