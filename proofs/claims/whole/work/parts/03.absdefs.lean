/-! the abstract state: values (tag, number), memory by cell and slot, shapes; what a machine state must be to hold one -/
abbrev zAV : Type := Nat × Int
abbrev zMem : Type := Int → Int → Int
abbrev zSh : Type := List (Nat × Nat)
/-- name, bytes, locals, answer, frames, locals' room, cells, slots -/
abbrev zMT : Type := MethodName × ByteArray × Nat × Option FieldType × Nat × Nat × Nat × Nat
/-- the script's cell, the heap at the law's start, class ids, slots of fields, array class ids, the script -/
abbrev zCT : Type := Nat × Heap × (Nat → ClassId) × (Nat → Nat → Nat) × (Nat → ClassId) × Nat × (Nat → Int32)
def zwsG : List Cond := lw_tbl.filter goodWord
def zws (mt : zMT) : List Cond := .code mt.1 mt.2.1 mt.2.2.1 mt.2.2.2.1 :: zwsG
def zrm (mt : zMT) : Room := { frames := mt.2.2.2.2.1, locals := mt.2.2.2.2.2.1, cells := mt.2.2.2.2.2.2.1, slots := mt.2.2.2.2.2.2.2 }
def zro (X : zCT) (v : Int) : Option Nat := if v = -2 then some X.1 else if v < 0 then none else some (X.2.1.size + v.toNat)
def zcV (X : zCT) (v : zAV) : Value := match v.1 with
  | 0 => .int (Int32.ofInt v.2)
  | 1 => .long (Int64.ofInt v.2)
  | _ => va_rf (zro X v.2)
def ztag (ty : FieldType) : Nat := match ty with
  | .long => 1
  | .object _ => 2
  | .array _ => 2
  | _ => 0
def zN (c : Nat) : Nat := match vwCl[c]? with
  | some q => q.2.2
  | none => 0
def zty (c k : Nat) : FieldType := match c with
  | 0 => tyX0 k
  | 1 => tyX1 k
  | 2 => tyX3 k
  | 3 => tyX4 k
  | 4 => tyX5 k
  | 5 => tyX6 k
  | 6 => tyX7 k
  | 7 => tyX8 k
  | 8 => tyX9 k
  | 9 => tyX10 k
  | 10 => tyX11 k
  | _ => tyX12 k
def zE (X : zCT) (mem : zMem) (i : Nat) (q : Nat × Nat) : va_E := match q.1 with
  | 12 => .inl (X.2.2.2.2.1 12, q.2, .inl (fun k => Int32.ofInt (mem i k)))
  | 13 => .inl (X.2.2.2.2.1 13, q.2, .inr (.inl (fun k => Int64.ofInt (mem i k))))
  | 14 => .inl (X.2.2.2.2.1 14, q.2, .inl (fun k => Int32.ofInt (mem i k)))
  | 15 => .inl (X.2.2.2.2.1 15, q.2, .inr (.inr (.inr (.inr (fun k => zro X (mem i k))))))
  | 16 => .inl (X.2.2.2.2.1 16, q.2, .inr (.inr (.inr (.inr (fun k => zro X (mem i k))))))
  | c => .inr (c, (List.range (zN c)).map (fun k => zcV X (ztag (zty c k), mem i k)))
def zW (X : zCT) (sh : zSh) (mem : zMem) : va_W := sh.zipIdx.map (fun p => (X.2.1.size + p.2, zE X mem p.2 p.1))
theorem zW_get (X : zCT) (sh : zSh) (mem : zMem) (i : Nat) : (zW X sh mem)[i]? = (sh[i]?).map (fun q => (X.2.1.size + i, zE X mem i q)) := by
  unfold zW
  rw [List.getElem?_map, List.getElem?_zipIdx]
  cases sh[i]? <;> simp
theorem zW_len (X : zCT) (sh : zSh) (mem : zMem) : (zW X sh mem).length = sh.length := by simp [zW]
theorem zW_app (X : zCT) (sh : zSh) (mem : zMem) (q : Nat × Nat) : zW X (sh ++ [q]) mem = zW X sh mem ++ [(X.2.1.size + sh.length, zE X mem sh.length q)] := by
  simp [zW, List.zipIdx_append]
theorem zW_D (X : zCT) (sh : zSh) (mem : zMem) : va_D (fun q => X.2.1.size ≤ q) (zW X sh mem) := by
  refine ⟨fun i j p q hi hj h => ?_, fun k q hk => ?_⟩
  · rw [zW_get] at hi hj
    obtain ⟨a, -, rfl⟩ := Option.map_eq_some_iff.mp hi
    obtain ⟨b, -, rfl⟩ := Option.map_eq_some_iff.mp hj
    simp only at h
    omega
  · rw [zW_get] at hk
    obtain ⟨a, -, rfl⟩ := Option.map_eq_some_iff.mp hk
    exact Nat.le_add_right _ _
/-- another memory that differs at one cell -/
theorem zW_set (X : zCT) (sh : zSh) (mem mem' : zMem) (i : Nat) (q : Nat × Nat) (e : va_E) (hq : sh[i]? = some q) (he : zE X mem' i q = e) (ho : ∀ j : Nat, j ≠ i → mem' j = mem j) : (zW X sh mem).set i (X.2.1.size + i, e) = zW X sh mem' := by
  apply List.ext_getElem?
  intro j
  by_cases h : j = i
  · subst h
    have hl : j < sh.length := (List.getElem?_eq_some_iff.mp hq).1
    rw [List.getElem?_set_self (by rw [zW_len]; exact hl), zW_get, hq]
    simp [he]
  · rw [List.getElem?_set_ne (Ne.symm h), zW_get, zW_get]
    cases hs : sh[j]? with
    | none => rfl
    | some p =>
      simp only [Option.map_some]
      have : zE X mem' j p = zE X mem j p := by
        unfold zE
        rw [ho j h]
      rw [this]
def zup (mem : zMem) (a k v : Int) : zMem := fun a' k' => if a' = a ∧ k' = k then v else mem a' k'
def zkd (sh : zSh) (a : Int) : Nat × Nat := match a with
  | .ofNat i => sh.getD i (99, 0)
  | .negSucc _ => (99, 0)
theorem zkd_at {sh : zSh} {a : Int} {q : Nat × Nat} (h : zkd sh a = q) (hq : q.1 < 99) : ∃ i : Nat, a = (i : Int) ∧ sh[i]? = some q := by
  cases a with
  | ofNat i =>
    refine ⟨i, rfl, ?_⟩
    have h1 : sh.getD i (99, 0) = q := h
    rw [List.getD_eq_getElem?_getD] at h1
    cases hs : sh[i]? with
    | none => rw [hs] at h1; subst h1; exact absurd hq (by decide)
    | some p => rw [hs] at h1; rw [← h1]; rfl
  | negSucc i =>
    have h1 : ((99, 0) : Nat × Nat) = q := h
    subst h1
    exact absurd hq (by decide)
theorem zro_nat (X : zCT) (i : Nat) : zro X (i : Int) = some (X.2.1.size + i) := by
  unfold zro
  rw [if_neg (by omega), if_neg (by omega)]
  simp
theorem zcV_ref (X : zCT) (i : Nat) : zcV X (2, (i : Int)) = .ref (X.2.1.size + i) := by
  show va_rf (zro X (i : Int)) = _
  rw [zro_nat]; rfl
theorem zcV_scr (X : zCT) : zcV X (2, -2) = .ref X.1 := rfl
def zH (X : zCT) (sh : zSh) (mem : zMem) (H : Heap) : Prop := va_P (X.2.2.1, X.2.2.2.1) vwCl (zW X sh mem) H ∧ H.size = X.2.1.size + sh.length ∧ ∀ q : Nat, q < X.2.1.size → H[q]? = X.2.1[q]?
def ztys (X : zCT) : List (ClassId × FieldType) := [(X.2.2.2.2.1 12, .int), (X.2.2.2.2.1 13, .long), (X.2.2.2.2.1 14, .boolean), (X.2.2.2.2.1 15, .object "CellPlane$Curve"), (X.2.2.2.2.1 16, .object "CellPlane$Root")]
