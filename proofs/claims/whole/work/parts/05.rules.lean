/-! one rule an instruction -/
abbrev I32 (v : Int) : Prop := -2147483648 ≤ v ∧ v < 2147483648
abbrev I64 (v : Int) : Prop := -9223372036854775808 ≤ v ∧ v < 9223372036854775808
theorem i32_toInt {a : Int} (h : I32 a) : (Int32.ofInt a).toInt = a := Int32.toInt_ofInt_of_le (by have := h.1; omega) (by have := h.2; omega)
theorem i64_toInt {a : Int} (h : I64 a) : (Int64.ofInt a).toInt = a := Int64.toInt_ofInt_of_le (by have := h.1; omega) (by have := h.2; omega)
theorem i32_lt {a b : Int} (ha : I32 a) (hb : I32 b) : Int32.ofInt a < Int32.ofInt b ↔ a < b := by rw [Int32.lt_iff_toInt_lt, i32_toInt ha, i32_toInt hb]
theorem i32_le {a b : Int} (ha : I32 a) (hb : I32 b) : Int32.ofInt a ≤ Int32.ofInt b ↔ a ≤ b := by rw [Int32.le_iff_toInt_le, i32_toInt ha, i32_toInt hb]
theorem i32_eq {a b : Int} (ha : I32 a) (hb : I32 b) : Int32.ofInt a = Int32.ofInt b ↔ a = b := by rw [← Int32.toInt_inj, i32_toInt ha, i32_toInt hb]
theorem i64_lt {a b : Int} (ha : I64 a) (hb : I64 b) : Int64.ofInt a < Int64.ofInt b ↔ a < b := by rw [Int64.lt_iff_toInt_lt, i64_toInt ha, i64_toInt hb]
theorem i64_eq {a b : Int} (ha : I64 a) (hb : I64 b) : Int64.ofInt a = Int64.ofInt b ↔ a = b := by rw [← Int64.toInt_inj, i64_toInt ha, i64_toInt hb]
theorem i32_0 : I32 0 := ⟨by decide, by decide⟩
theorem i32_idx {i : Int} {n : Nat} (h0 : 0 ≤ i) (h1 : i < n) (hn : Nat.ble n 100000 = true) : vp_in (Int32.ofInt i) n ∧ (((Int32.ofInt i).toNatClampNeg : Nat) : Int) = i := by
  have hn' := Nat.le_of_ble_eq_true hn
  have hr : I32 i := ⟨by omega, by omega⟩
  have e : (Int32.ofInt i).toInt = i := i32_toInt hr
  refine ⟨vp_in_iff.mpr ⟨by rw [e]; exact h0, by rw [e]; exact h1⟩, ?_⟩
  rw [Int32.toNatClampNeg_ofInt_of_le (by omega) (by omega)]
  omega
section zRULES
variable {P : zCT → Prop} {mt : zMT} {sh : zSh} {u : Nat × Nat} {pc n : Nat} {L L' : List (Option zAV)} {st : List zAV} {mem : zMem} {Q : zQT} {a b : Int}
theorem zV_iconst (hd : decode mt.2.1 pc = .ok (.iconst a, 1) ∧ pc + 1 = n) (k : zV P mt sh u n L ((0, a) :: st) mem Q) : zV P mt sh u pc L st mem Q := by
  intro X p l ev s m args below meth c Z hP C R H locs ls hH hl hL
  rw [← hd.2] at k
  exact lv_iconst C.1 C.2.1 hd.1 rfl (k X p l ev s m args below meth c Z hP C R H locs ls hH hl hL)
theorem zV_bipush (hd : decode mt.2.1 pc = .ok (.bipush a, 2) ∧ pc + 2 = n ∧ (Int8.ofInt a).toInt32 = Int32.ofInt a) (k : zV P mt sh u n L ((0, a) :: st) mem Q) : zV P mt sh u pc L st mem Q := by
  intro X p l ev s m args below meth c Z hP C R H locs ls hH hl hL
  rw [← hd.2.1] at k
  exact lv_bipush C.1 C.2.1 hd.1 hd.2.2 (k X p l ev s m args below meth c Z hP C R H locs ls hH hl hL)
theorem zV_sipush (hd : decode mt.2.1 pc = .ok (.sipush a, 3) ∧ pc + 3 = n ∧ (Int16.ofInt a).toInt32 = Int32.ofInt a) (k : zV P mt sh u n L ((0, a) :: st) mem Q) : zV P mt sh u pc L st mem Q := by
  intro X p l ev s m args below meth c Z hP C R H locs ls hH hl hL
  rw [← hd.2.1] at k
  exact lv_sipush C.1 C.2.1 hd.1 hd.2.2 (k X p l ev s m args below meth c Z hP C R H locs ls hH hl hL)
theorem zV_lconst0 (hd : decode mt.2.1 pc = .ok (.lconst 0, 1) ∧ pc + 1 = n) (k : zV P mt sh u n L ((1, 0) :: st) mem Q) : zV P mt sh u pc L st mem Q := by
  intro X p l ev s m args below meth c Z hP C R H locs ls hH hl hL
  rw [← hd.2] at k
  exact lv_lconst C.1 C.2.1 hd.1 (show Int64.ofNat ((0 : Fin 2) : Nat) = Int64.ofInt 0 from by decide) (k X p l ev s m args below meth c Z hP C R H locs ls hH hl hL)
theorem zV_lconst1 (hd : decode mt.2.1 pc = .ok (.lconst 1, 1) ∧ pc + 1 = n) (k : zV P mt sh u n L ((1, 1) :: st) mem Q) : zV P mt sh u pc L st mem Q := by
  intro X p l ev s m args below meth c Z hP C R H locs ls hH hl hL
  rw [← hd.2] at k
  exact lv_lconst C.1 C.2.1 hd.1 (show Int64.ofNat ((1 : Fin 2) : Nat) = Int64.ofInt 1 from by decide) (k X p l ev s m args below meth c Z hP C R H locs ls hH hl hL)
theorem zV_ldc {i : Nat} {v : Int32} (hd : decode mt.2.1 pc = .ok (.ldc i, 2) ∧ pc + 2 = n) (hw : Cond.constant mt.1.cls i v ∈ zwsG) (hv : v = Int32.ofInt a) (k : zV P mt sh u n L ((0, a) :: st) mem Q) : zV P mt sh u pc L st mem Q := by
  intro X p l ev s m args below meth c Z hP C R H locs ls hH hl hL
  rw [← hd.2] at k
  subst hv
  exact lv_ldc C.1 C.2.1 C.2.2.2.2.2.1 (C.2.2.2.2.2.2.1 _ hw) hd.1 (k X p l ev s m args below meth c Z hP C R H locs ls hH hl hL)
theorem zV_ldcw {i : Nat} {v : Int32} (hd : decode mt.2.1 pc = .ok (.ldc_w i, 3) ∧ pc + 3 = n) (hw : Cond.constant mt.1.cls i v ∈ zwsG) (hv : v = Int32.ofInt a) (k : zV P mt sh u n L ((0, a) :: st) mem Q) : zV P mt sh u pc L st mem Q := by
  intro X p l ev s m args below meth c Z hP C R H locs ls hH hl hL
  rw [← hd.2] at k
  subst hv
  exact lv_ldcw C.1 C.2.1 C.2.2.2.2.2.1 (C.2.2.2.2.2.2.1 _ hw) hd.1 (k X p l ev s m args below meth c Z hP C R H locs ls hH hl hL)
theorem zV_ldc2 {i : Nat} {v : Int64} (hd : decode mt.2.1 pc = .ok (.ldc2_w i, 3) ∧ pc + 3 = n) (hw : Cond.constantLong mt.1.cls i v ∈ zwsG) (hv : v = Int64.ofInt a) (k : zV P mt sh u n L ((1, a) :: st) mem Q) : zV P mt sh u pc L st mem Q := by
  intro X p l ev s m args below meth c Z hP C R H locs ls hH hl hL
  rw [← hd.2] at k
  subst hv
  exact lv_ldc2 C.1 C.2.1 C.2.2.2.2.2.1 (C.2.2.2.2.2.2.1 _ hw) hd.1 (k X p l ev s m args below meth c Z hP C R H locs ls hH hl hL)
theorem zV_iload_n {k9 : Fin 4} (hd : decode mt.2.1 pc = .ok (.iload_n k9, 1) ∧ pc + 1 = n) (hg : zgl L (k9 : Nat) = some (0, a)) (k : zV P mt sh u n L ((0, a) :: st) mem Q) : zV P mt sh u pc L st mem Q := by
  intro X p l ev s m args below meth c Z hP C R H locs ls hH hl hL
  rw [← hd.2] at k
  exact lv_iload_n C.1 C.2.1 hd.1 rfl (hL.2.2 _ _ hg) (k X p l ev s m args below meth c Z hP C R H locs ls hH hl hL)
theorem zV_iload {i : Nat} (hd : decode mt.2.1 pc = .ok (.iload i, 2) ∧ pc + 2 = n) (hg : zgl L i = some (0, a)) (k : zV P mt sh u n L ((0, a) :: st) mem Q) : zV P mt sh u pc L st mem Q := by
  intro X p l ev s m args below meth c Z hP C R H locs ls hH hl hL
  rw [← hd.2] at k
  exact lv_iload C.1 C.2.1 hd.1 (hL.2.2 _ _ hg) (k X p l ev s m args below meth c Z hP C R H locs ls hH hl hL)
theorem zV_lload_n {k9 : Fin 4} (hd : decode mt.2.1 pc = .ok (.lload_n k9, 1) ∧ pc + 1 = n) (hg : zgl L (k9 : Nat) = some (1, a)) (k : zV P mt sh u n L ((1, a) :: st) mem Q) : zV P mt sh u pc L st mem Q := by
  intro X p l ev s m args below meth c Z hP C R H locs ls hH hl hL
  rw [← hd.2] at k
  exact lv_lload_n C.1 C.2.1 hd.1 rfl (hL.2.2 _ _ hg) (k X p l ev s m args below meth c Z hP C R H locs ls hH hl hL)
theorem zV_lload {i : Nat} (hd : decode mt.2.1 pc = .ok (.lload i, 2) ∧ pc + 2 = n) (hg : zgl L i = some (1, a)) (k : zV P mt sh u n L ((1, a) :: st) mem Q) : zV P mt sh u pc L st mem Q := by
  intro X p l ev s m args below meth c Z hP C R H locs ls hH hl hL
  rw [← hd.2] at k
  exact lv_lload C.1 C.2.1 hd.1 (hL.2.2 _ _ hg) (k X p l ev s m args below meth c Z hP C R H locs ls hH hl hL)
theorem zV_aload_n {k9 : Fin 4} (hd : decode mt.2.1 pc = .ok (.aload_n k9, 1) ∧ pc + 1 = n) (hg : zgl L (k9 : Nat) = some (2, a)) (k : zV P mt sh u n L ((2, a) :: st) mem Q) : zV P mt sh u pc L st mem Q := by
  intro X p l ev s m args below meth c Z hP C R H locs ls hH hl hL
  rw [← hd.2] at k
  have h1 := hL.2.2 _ _ hg
  have h2 := k X p l ev s m args below meth c Z hP C R H locs ls hH hl hL
  cases hz : zro X a with
  | none =>
    have e : zcV X (2, a) = .null := by show va_rf (zro X a) = _; rw [hz]; rfl
    rw [e] at h1
    rw [List.map_cons, e] at h2
    exact lv_aload_nN C.1 C.2.1 hd.1 rfl h1 h2
  | some q =>
    have e : zcV X (2, a) = .ref q := by show va_rf (zro X a) = _; rw [hz]; rfl
    rw [e] at h1
    rw [List.map_cons, e] at h2
    exact lv_aload_n C.1 C.2.1 hd.1 rfl h1 h2
theorem zV_aload {i : Nat} (hd : decode mt.2.1 pc = .ok (.aload i, 2) ∧ pc + 2 = n) (hg : zgl L i = some (2, a)) (k : zV P mt sh u n L ((2, a) :: st) mem Q) : zV P mt sh u pc L st mem Q := by
  intro X p l ev s m args below meth c Z hP C R H locs ls hH hl hL
  rw [← hd.2] at k
  have h1 := hL.2.2 _ _ hg
  have h2 := k X p l ev s m args below meth c Z hP C R H locs ls hH hl hL
  cases hz : zro X a with
  | none =>
    have e : zcV X (2, a) = .null := by show va_rf (zro X a) = _; rw [hz]; rfl
    rw [e] at h1
    rw [List.map_cons, e] at h2
    exact lv_aloadN C.1 C.2.1 hd.1 h1 h2
  | some q =>
    have e : zcV X (2, a) = .ref q := by show va_rf (zro X a) = _; rw [hz]; rfl
    rw [e] at h1
    rw [List.map_cons, e] at h2
    exact lv_aload C.1 C.2.1 hd.1 h1 h2
theorem zV_istore_n {k9 : Fin 4} (hd : decode mt.2.1 pc = .ok (.istore_n k9, 1) ∧ pc + 1 = n) (hn : (k9 : Nat) < mt.2.2.1) (hs : zs1 L (k9 : Nat) (0, a) = L') (k : zV P mt sh u n L' st mem Q) : zV P mt sh u pc L ((0, a) :: st) mem Q := by
  intro X p l ev s m args below meth c Z hP C R H locs ls hH hl hL
  rw [← hd.2] at k
  exact lv_istore_n C.1 C.2.1 hd.1 rfl (zL_has hL) hn rfl (fun ls' hl' => k X p l ev s m args below meth c Z hP C R H locs ls' hH hl (by rw [← hs]; exact zL_s1 hL hl'))
theorem zV_istore {i : Nat} (hd : decode mt.2.1 pc = .ok (.istore i, 2) ∧ pc + 2 = n) (hn : i < mt.2.2.1) (hs : zs1 L i (0, a) = L') (k : zV P mt sh u n L' st mem Q) : zV P mt sh u pc L ((0, a) :: st) mem Q := by
  intro X p l ev s m args below meth c Z hP C R H locs ls hH hl hL
  rw [← hd.2] at k
  exact lv_istore C.1 C.2.1 hd.1 (zL_has hL) hn rfl (fun ls' hl' => k X p l ev s m args below meth c Z hP C R H locs ls' hH hl (by rw [← hs]; exact zL_s1 hL hl'))
theorem zV_lstore_n {k9 : Fin 4} (hd : decode mt.2.1 pc = .ok (.lstore_n k9, 1) ∧ pc + 1 = n) (hn : (k9 : Nat) + 1 < mt.2.2.1) (hs : zs2 L (k9 : Nat) (1, a) = L') (k : zV P mt sh u n L' st mem Q) : zV P mt sh u pc L ((1, a) :: st) mem Q := by
  intro X p l ev s m args below meth c Z hP C R H locs ls hH hl hL
  rw [← hd.2] at k
  exact lv_lstore_n C.1 C.2.1 hd.1 rfl (zL_has hL) hn rfl (fun ls' hl' => k X p l ev s m args below meth c Z hP C R H locs ls' hH hl (by rw [← hs]; exact zL_s2 hL hl'))
theorem zV_lstore {i : Nat} (hd : decode mt.2.1 pc = .ok (.lstore i, 2) ∧ pc + 2 = n) (hn : i + 1 < mt.2.2.1) (hs : zs2 L i (1, a) = L') (k : zV P mt sh u n L' st mem Q) : zV P mt sh u pc L ((1, a) :: st) mem Q := by
  intro X p l ev s m args below meth c Z hP C R H locs ls hH hl hL
  rw [← hd.2] at k
  exact lv_lstore C.1 C.2.1 hd.1 (zL_has hL) hn rfl (fun ls' hl' => k X p l ev s m args below meth c Z hP C R H locs ls' hH hl (by rw [← hs]; exact zL_s2 hL hl'))
theorem zV_astore_n {k9 : Fin 4} (hd : decode mt.2.1 pc = .ok (.astore_n k9, 1) ∧ pc + 1 = n) (hn : (k9 : Nat) < mt.2.2.1) (hs : zs1 L (k9 : Nat) (2, a) = L') (k : zV P mt sh u n L' st mem Q) : zV P mt sh u pc L ((2, a) :: st) mem Q := by
  intro X p l ev s m args below meth c Z hP C R H locs ls hH hl hL
  rw [← hd.2] at k
  cases hz : zro X a with
  | none =>
    have e : zcV X (2, a) = .null := by show va_rf (zro X a) = _; rw [hz]; rfl
    rw [List.map_cons, e]
    exact lv_astore_nN C.1 C.2.1 hd.1 rfl (zL_has hL) hn rfl (fun ls' hl' => k X p l ev s m args below meth c Z hP C R H locs ls' hH hl (by rw [← hs]; exact zL_s1 hL (by rw [e]; exact hl')))
  | some q =>
    have e : zcV X (2, a) = .ref q := by show va_rf (zro X a) = _; rw [hz]; rfl
    rw [List.map_cons, e]
    exact lv_astore_n C.1 C.2.1 hd.1 rfl (zL_has hL) hn rfl (fun ls' hl' => k X p l ev s m args below meth c Z hP C R H locs ls' hH hl (by rw [← hs]; exact zL_s1 hL (by rw [e]; exact hl')))
theorem zV_astore {i : Nat} (hd : decode mt.2.1 pc = .ok (.astore i, 2) ∧ pc + 2 = n) (hn : i < mt.2.2.1) (hs : zs1 L i (2, a) = L') (k : zV P mt sh u n L' st mem Q) : zV P mt sh u pc L ((2, a) :: st) mem Q := by
  intro X p l ev s m args below meth c Z hP C R H locs ls hH hl hL
  rw [← hd.2] at k
  cases hz : zro X a with
  | none =>
    have e : zcV X (2, a) = .null := by show va_rf (zro X a) = _; rw [hz]; rfl
    rw [List.map_cons, e]
    exact lv_astoreN C.1 C.2.1 hd.1 (zL_has hL) hn rfl (fun ls' hl' => k X p l ev s m args below meth c Z hP C R H locs ls' hH hl (by rw [← hs]; exact zL_s1 hL (by rw [e]; exact hl')))
  | some q =>
    have e : zcV X (2, a) = .ref q := by show va_rf (zro X a) = _; rw [hz]; rfl
    rw [List.map_cons, e]
    exact lv_astore C.1 C.2.1 hd.1 (zL_has hL) hn rfl (fun ls' hl' => k X p l ev s m args below meth c Z hP C R H locs ls' hH hl (by rw [← hs]; exact zL_s1 hL (by rw [e]; exact hl')))
theorem zV_iinc {i : Nat} {d : Int} (hd : decode mt.2.1 pc = .ok (.iinc i d, 3) ∧ pc + 3 = n) (hn : i < mt.2.2.1) (hg : zgl L i = some (0, a)) (hs : zs1 L i (0, a + d) = L') (k : zV P mt sh u n L' st mem Q) : zV P mt sh u pc L st mem Q := by
  intro X p l ev s m args below meth c Z hP C R H locs ls hH hl hL
  rw [← hd.2] at k
  have hm : (i, zcV X (0, a)) ∈ zas X mt.2.2.1 L := zas_mem hn hg
  obtain ⟨j, hj⟩ := List.getElem?_of_mem hm
  exact lv_iinc C.1 C.2.1 hd.1 (zL_has hL) (k := j) (x := Int32.ofInt a) (v := Int32.ofInt (a + d)) hj (by rw [Int32.ofInt_add]) hn rfl (fun ls' hl' => k X p l ev s m args below meth c Z hP C R H locs ls' hH hl (by rw [← hs]; exact zL_s1 hL hl'))
theorem zV_iadd (hd : decode mt.2.1 pc = .ok (.iadd, 1) ∧ pc + 1 = n) (k : zV P mt sh u n L ((0, a + b) :: st) mem Q) : zV P mt sh u pc L ((0, b) :: (0, a) :: st) mem Q := by
  intro X p l ev s m args below meth c Z hP C R H locs ls hH hl hL
  rw [← hd.2] at k
  have h2 := k X p l ev s m args below meth c Z hP C R H locs ls hH hl hL
  have e : zcV X (0, a + b) = .int (Int32.ofInt a + Int32.ofInt b) := by show Value.int (Int32.ofInt _) = _; rw [Int32.ofInt_add]
  rw [List.map_cons, e] at h2
  exact lv_iadd C.1 C.2.1 hd.1 h2
theorem zV_isub (hd : decode mt.2.1 pc = .ok (.isub, 1) ∧ pc + 1 = n) (k : zV P mt sh u n L ((0, a - b) :: st) mem Q) : zV P mt sh u pc L ((0, b) :: (0, a) :: st) mem Q := by
  intro X p l ev s m args below meth c Z hP C R H locs ls hH hl hL
  rw [← hd.2] at k
  have h2 := k X p l ev s m args below meth c Z hP C R H locs ls hH hl hL
  have e : zcV X (0, a - b) = .int (Int32.ofInt a - Int32.ofInt b) := by show Value.int (Int32.ofInt _) = _; rw [Int32.ofInt_sub]
  rw [List.map_cons, e] at h2
  exact lv_isub C.1 C.2.1 hd.1 h2
theorem zV_imul (hd : decode mt.2.1 pc = .ok (.imul, 1) ∧ pc + 1 = n) (k : zV P mt sh u n L ((0, a * b) :: st) mem Q) : zV P mt sh u pc L ((0, b) :: (0, a) :: st) mem Q := by
  intro X p l ev s m args below meth c Z hP C R H locs ls hH hl hL
  rw [← hd.2] at k
  have h2 := k X p l ev s m args below meth c Z hP C R H locs ls hH hl hL
  have e : zcV X (0, a * b) = .int (Int32.ofInt a * Int32.ofInt b) := by show Value.int (Int32.ofInt _) = _; rw [Int32.ofInt_mul]
  rw [List.map_cons, e] at h2
  exact lv_imul C.1 C.2.1 hd.1 h2
theorem zV_ladd (hd : decode mt.2.1 pc = .ok (.ladd, 1) ∧ pc + 1 = n) (k : zV P mt sh u n L ((1, a + b) :: st) mem Q) : zV P mt sh u pc L ((1, b) :: (1, a) :: st) mem Q := by
  intro X p l ev s m args below meth c Z hP C R H locs ls hH hl hL
  rw [← hd.2] at k
  have h2 := k X p l ev s m args below meth c Z hP C R H locs ls hH hl hL
  have e : zcV X (1, a + b) = .long (Int64.ofInt a + Int64.ofInt b) := by show Value.long (Int64.ofInt _) = _; rw [Int64.ofInt_add]
  rw [List.map_cons, e] at h2
  exact lv_ladd C.1 C.2.1 hd.1 h2
theorem zV_lsub (hd : decode mt.2.1 pc = .ok (.lsub, 1) ∧ pc + 1 = n) (k : zV P mt sh u n L ((1, a - b) :: st) mem Q) : zV P mt sh u pc L ((1, b) :: (1, a) :: st) mem Q := by
  intro X p l ev s m args below meth c Z hP C R H locs ls hH hl hL
  rw [← hd.2] at k
  have h2 := k X p l ev s m args below meth c Z hP C R H locs ls hH hl hL
  have e : zcV X (1, a - b) = .long (Int64.ofInt a - Int64.ofInt b) := by show Value.long (Int64.ofInt _) = _; rw [Int64.ofInt_sub]
  rw [List.map_cons, e] at h2
  exact lv_lsub C.1 C.2.1 hd.1 h2
theorem zV_lmul (hd : decode mt.2.1 pc = .ok (.lmul, 1) ∧ pc + 1 = n) (k : zV P mt sh u n L ((1, a * b) :: st) mem Q) : zV P mt sh u pc L ((1, b) :: (1, a) :: st) mem Q := by
  intro X p l ev s m args below meth c Z hP C R H locs ls hH hl hL
  rw [← hd.2] at k
  have h2 := k X p l ev s m args below meth c Z hP C R H locs ls hH hl hL
  have e : zcV X (1, a * b) = .long (Int64.ofInt a * Int64.ofInt b) := by show Value.long (Int64.ofInt _) = _; rw [Int64.ofInt_mul]
  rw [List.map_cons, e] at h2
  exact lv_lmul C.1 C.2.1 hd.1 h2
theorem zV_ineg (hd : decode mt.2.1 pc = .ok (.ineg, 1) ∧ pc + 1 = n) (k : zV P mt sh u n L ((0, -a) :: st) mem Q) : zV P mt sh u pc L ((0, a) :: st) mem Q := by
  intro X p l ev s m args below meth c Z hP C R H locs ls hH hl hL
  rw [← hd.2] at k
  have h2 := k X p l ev s m args below meth c Z hP C R H locs ls hH hl hL
  have e : zcV X (0, -a) = .int (-Int32.ofInt a) := by show Value.int (Int32.ofInt _) = _; rw [Int32.ofInt_neg]
  rw [List.map_cons, e] at h2
  exact lv_ineg C.1 C.2.1 hd.1 h2
theorem zV_lneg (hd : decode mt.2.1 pc = .ok (.lneg, 1) ∧ pc + 1 = n) (k : zV P mt sh u n L ((1, -a) :: st) mem Q) : zV P mt sh u pc L ((1, a) :: st) mem Q := by
  intro X p l ev s m args below meth c Z hP C R H locs ls hH hl hL
  rw [← hd.2] at k
  have h2 := k X p l ev s m args below meth c Z hP C R H locs ls hH hl hL
  have e : zcV X (1, -a) = .long (-Int64.ofInt a) := by show Value.long (Int64.ofInt _) = _; rw [Int64.ofInt_neg]
  rw [List.map_cons, e] at h2
  exact lv_lneg C.1 C.2.1 hd.1 h2
theorem zV_idiv (hd : decode mt.2.1 pc = .ok (.idiv, 1) ∧ pc + 1 = n) (ha : I32 a) (hb : I32 b) (hne : b ≠ 0) (k : zV P mt sh u n L ((0, Int.tdiv a b) :: st) mem Q) : zV P mt sh u pc L ((0, b) :: (0, a) :: st) mem Q := by
  intro X p l ev s m args below meth c Z hP C R H locs ls hH hl hL
  rw [← hd.2] at k
  have h2 := k X p l ev s m args below meth c Z hP C R H locs ls hH hl hL
  have hdiv : Int32.ofInt (Int.tdiv a b) = Int32.ofInt a / Int32.ofInt b := by
    apply Int32.toInt_inj.mp
    rw [Int32.toInt_div, i32_toInt ha, i32_toInt hb, Int32.toInt_ofInt]
  have e : zcV X (0, Int.tdiv a b) = .int (Int32.ofInt a / Int32.ofInt b) := by
    show Value.int (Int32.ofInt _) = _
    rw [hdiv]
  rw [List.map_cons, e] at h2
  exact lv_idiv C.1 C.2.1 hd.1 (fun q => hne ((i32_eq hb ⟨by decide, by decide⟩).mp q)) h2
theorem zV_irem (hd : decode mt.2.1 pc = .ok (.irem, 1) ∧ pc + 1 = n) (ha : I32 a) (hb : I32 b) (hne : b ≠ 0) (k : zV P mt sh u n L ((0, Int.tmod a b) :: st) mem Q) : zV P mt sh u pc L ((0, b) :: (0, a) :: st) mem Q := by
  intro X p l ev s m args below meth c Z hP C R H locs ls hH hl hL
  rw [← hd.2] at k
  have h2 := k X p l ev s m args below meth c Z hP C R H locs ls hH hl hL
  have hdiv : Int32.ofInt (Int.tdiv a b) = Int32.ofInt a / Int32.ofInt b := by
    apply Int32.toInt_inj.mp
    rw [Int32.toInt_div, i32_toInt ha, i32_toInt hb, Int32.toInt_ofInt]
  have e : zcV X (0, Int.tmod a b) = .int (Int32.ofInt a - Int32.ofInt a / Int32.ofInt b * Int32.ofInt b) := by
    show Value.int (Int32.ofInt _) = _
    rw [← hdiv, ← Int32.ofInt_mul, ← Int32.ofInt_sub, Int.tmod_def, Int.mul_comm]
  rw [List.map_cons, e] at h2
  exact lv_irem C.1 C.2.1 hd.1 (fun q => hne ((i32_eq hb ⟨by decide, by decide⟩).mp q)) h2
theorem zV_ldiv (hd : decode mt.2.1 pc = .ok (.ldiv, 1) ∧ pc + 1 = n) (ha : I64 a) (hb : I64 b) (hne : b ≠ 0) (k : zV P mt sh u n L ((1, Int.tdiv a b) :: st) mem Q) : zV P mt sh u pc L ((1, b) :: (1, a) :: st) mem Q := by
  intro X p l ev s m args below meth c Z hP C R H locs ls hH hl hL
  rw [← hd.2] at k
  have h2 := k X p l ev s m args below meth c Z hP C R H locs ls hH hl hL
  have hdiv : Int64.ofInt (Int.tdiv a b) = Int64.ofInt a / Int64.ofInt b := by
    apply Int64.toInt_inj.mp
    rw [Int64.toInt_div, i64_toInt ha, i64_toInt hb, Int64.toInt_ofInt]
  have e : zcV X (1, Int.tdiv a b) = .long (Int64.ofInt a / Int64.ofInt b) := by
    show Value.long (Int64.ofInt _) = _
    rw [hdiv]
  rw [List.map_cons, e] at h2
  exact lv_ldiv C.1 C.2.1 hd.1 (fun q => hne ((i64_eq hb ⟨by decide, by decide⟩).mp q)) h2
theorem zV_lrem (hd : decode mt.2.1 pc = .ok (.lrem, 1) ∧ pc + 1 = n) (ha : I64 a) (hb : I64 b) (hne : b ≠ 0) (k : zV P mt sh u n L ((1, Int.tmod a b) :: st) mem Q) : zV P mt sh u pc L ((1, b) :: (1, a) :: st) mem Q := by
  intro X p l ev s m args below meth c Z hP C R H locs ls hH hl hL
  rw [← hd.2] at k
  have h2 := k X p l ev s m args below meth c Z hP C R H locs ls hH hl hL
  have hdiv : Int64.ofInt (Int.tdiv a b) = Int64.ofInt a / Int64.ofInt b := by
    apply Int64.toInt_inj.mp
    rw [Int64.toInt_div, i64_toInt ha, i64_toInt hb, Int64.toInt_ofInt]
  have e : zcV X (1, Int.tmod a b) = .long (Int64.ofInt a - Int64.ofInt a / Int64.ofInt b * Int64.ofInt b) := by
    show Value.long (Int64.ofInt _) = _
    rw [← hdiv, ← Int64.ofInt_mul, ← Int64.ofInt_sub, Int.tmod_def, Int.mul_comm]
  rw [List.map_cons, e] at h2
  exact lv_lrem C.1 C.2.1 hd.1 (fun q => hne ((i64_eq hb ⟨by decide, by decide⟩).mp q)) h2
theorem zV_i2l (hd : decode mt.2.1 pc = .ok (.i2l, 1) ∧ pc + 1 = n) (ha : I32 a) (k : zV P mt sh u n L ((1, a) :: st) mem Q) : zV P mt sh u pc L ((0, a) :: st) mem Q := by
  intro X p l ev s m args below meth c Z hP C R H locs ls hH hl hL
  rw [← hd.2] at k
  have h1 : Int32.minValue.toInt ≤ a := by have := ha.1; simpa using this
  have h2 : a ≤ Int32.maxValue.toInt := by
    have h3 : a ≤ 2147483647 := by have := ha.2; omega
    have h4 : Int32.maxValue.toInt = 2147483647 := by decide
    rw [h4]; exact h3
  exact lv_i2l C.1 C.2.1 hd.1 (Int32.toInt64_ofInt h1 h2) (k X p l ev s m args below meth c Z hP C R H locs ls hH hl hL)
theorem zV_l2i (hd : decode mt.2.1 pc = .ok (.l2i, 1) ∧ pc + 1 = n) (k : zV P mt sh u n L ((0, a) :: st) mem Q) : zV P mt sh u pc L ((1, a) :: st) mem Q := by
  intro X p l ev s m args below meth c Z hP C R H locs ls hH hl hL
  rw [← hd.2] at k
  exact lv_l2i C.1 C.2.1 hd.1 Int64.toInt32_ofInt (k X p l ev s m args below meth c Z hP C R H locs ls hH hl hL)
theorem zV_dup {v : zAV} (hd : decode mt.2.1 pc = .ok (.dup, 1) ∧ pc + 1 = n) (hv : v.1 ≠ 1) (k : zV P mt sh u n L (v :: v :: st) mem Q) : zV P mt sh u pc L (v :: st) mem Q := by
  intro X p l ev s m args below meth c Z hP C R H locs ls hH hl hL
  rw [← hd.2] at k
  have hc := zcat X v
  exact lv_dup C.1 C.2.1 hd.1 (by rcases lv_cat (zcV X v) with q | q; exact q; exact absurd (hc.mp q) hv) (k X p l ev s m args below meth c Z hP C R H locs ls hH hl hL)
theorem zV_dup2 {v w : zAV} (hd : decode mt.2.1 pc = .ok (.dup2, 1) ∧ pc + 1 = n) (hv : v.1 ≠ 1) (hw : w.1 ≠ 1) (k : zV P mt sh u n L (v :: w :: v :: w :: st) mem Q) : zV P mt sh u pc L (v :: w :: st) mem Q := by
  intro X p l ev s m args below meth c Z hP C R H locs ls hH hl hL
  rw [← hd.2] at k
  have hc := zcat X v
  have hc2 := zcat X w
  exact lv_dup2_11 C.1 C.2.1 hd.1 (by rcases lv_cat (zcV X v) with q | q; exact q; exact absurd (hc.mp q) hv) (by rcases lv_cat (zcV X w) with q | q; exact q; exact absurd (hc2.mp q) hw) (k X p l ev s m args below meth c Z hP C R H locs ls hH hl hL)
theorem zV_goto {off : Int} {tgt : Nat} (hd : decode mt.2.1 pc = .ok (.goto off, 3) ∧ (pc : Int) + off = (tgt : Int)) (k : zV P mt sh u tgt L st mem Q) : zV P mt sh u pc L st mem Q := by
  intro X p l ev s m args below meth c Z hP C R H locs ls hH hl hL
  exact lv_goto C.1 C.2.1 hd.1 hd.2 (k X p l ev s m args below meth c Z hP C R H locs ls hH hl hL)
theorem zV_top {t : Nat} (k : ∀ y : Int, y = a → zV P mt sh u pc L ((t, y) :: st) mem Q) : zV P mt sh u pc L ((t, a) :: st) mem Q := k a rfl
theorem zV_icmp_eq {off : Int} {tgt : Nat} (hd : decode mt.2.1 pc = .ok (.if_icmp .eq off, 3) ∧ pc + 3 = n ∧ (pc : Int) + off = (tgt : Int)) (ha : I32 a) (hb : I32 b) (kt : a = b → zV P mt sh u tgt L st mem Q) (kf : ¬ a = b → zV P mt sh u n L st mem Q) : zV P mt sh u pc L ((0, b) :: (0, a) :: st) mem Q := by
  intro X p l ev s m args below meth c Z hP C R H locs ls hH hl hL
  rw [← hd.2.1] at kf
  have q1 := i32_eq ha hb
  have q2 := i32_lt ha hb
  have q3 := i32_le ha hb
  have q4 := i32_lt hb ha
  have q5 := i32_le hb ha
  refine lv_icmp_eq C.1 C.2.1 hd.1 hd.2.2 (fun h => kt ?_ X p l ev s m args below meth c Z hP C R H locs ls hH hl hL) (fun h => kf ?_ X p l ev s m args below meth c Z hP C R H locs ls hH hl hL)
  · first | exact q1.mp h | exact fun z => h (q1.mpr z) | exact q2.mp h | exact q3.mp h | exact q4.mp h | exact q5.mp h
  · first | exact q1.mp h | exact fun z => h (q1.mpr z) | exact Int.not_lt.mp (fun z => h (q2.mpr z)) | exact Int.not_le.mp (fun z => h (q3.mpr z)) | exact Int.not_lt.mp (fun z => h (q4.mpr z)) | exact Int.not_le.mp (fun z => h (q5.mpr z)) | exact q2.mp h | exact q3.mp h | exact q4.mp h | exact q5.mp h
theorem zV_if_eq {off : Int} {tgt : Nat} (hd : decode mt.2.1 pc = .ok (.ifCond .eq off, 3) ∧ pc + 3 = n ∧ (pc : Int) + off = (tgt : Int)) (ha : I32 a) (kt : a = 0 → zV P mt sh u tgt L st mem Q) (kf : ¬ a = 0 → zV P mt sh u n L st mem Q) : zV P mt sh u pc L ((0, a) :: st) mem Q := by
  intro X p l ev s m args below meth c Z hP C R H locs ls hH hl hL
  rw [← hd.2.1] at kf
  have z0 : Int32.ofInt 0 = 0 := rfl
  have q1 := i32_eq ha i32_0
  have q2 := i32_lt ha i32_0
  have q3 := i32_le ha i32_0
  have q4 := i32_lt i32_0 ha
  have q5 := i32_le i32_0 ha
  rw [z0] at q1 q2 q3 q4 q5
  refine lv_if_eq C.1 C.2.1 hd.1 hd.2.2 (fun h => kt ?_ X p l ev s m args below meth c Z hP C R H locs ls hH hl hL) (fun h => kf ?_ X p l ev s m args below meth c Z hP C R H locs ls hH hl hL)
  · first | exact q1.mp h | exact fun z => h (q1.mpr z) | exact q2.mp h | exact q3.mp h | exact q4.mp h | exact q5.mp h
  · first | exact q1.mp h | exact fun z => h (q1.mpr z) | exact Int.not_lt.mp (fun z => h (q2.mpr z)) | exact Int.not_le.mp (fun z => h (q3.mpr z)) | exact Int.not_lt.mp (fun z => h (q4.mpr z)) | exact Int.not_le.mp (fun z => h (q5.mpr z)) | exact q2.mp h | exact q3.mp h | exact q4.mp h | exact q5.mp h
theorem zV_icmp_ne {off : Int} {tgt : Nat} (hd : decode mt.2.1 pc = .ok (.if_icmp .ne off, 3) ∧ pc + 3 = n ∧ (pc : Int) + off = (tgt : Int)) (ha : I32 a) (hb : I32 b) (kt : ¬ a = b → zV P mt sh u tgt L st mem Q) (kf : a = b → zV P mt sh u n L st mem Q) : zV P mt sh u pc L ((0, b) :: (0, a) :: st) mem Q := by
  intro X p l ev s m args below meth c Z hP C R H locs ls hH hl hL
  rw [← hd.2.1] at kf
  have q1 := i32_eq ha hb
  have q2 := i32_lt ha hb
  have q3 := i32_le ha hb
  have q4 := i32_lt hb ha
  have q5 := i32_le hb ha
  refine lv_icmp_ne C.1 C.2.1 hd.1 hd.2.2 (fun h => kt ?_ X p l ev s m args below meth c Z hP C R H locs ls hH hl hL) (fun h => kf ?_ X p l ev s m args below meth c Z hP C R H locs ls hH hl hL)
  · first | exact q1.mp h | exact fun z => h (q1.mpr z) | exact q2.mp h | exact q3.mp h | exact q4.mp h | exact q5.mp h
  · first | exact q1.mp h | exact fun z => h (q1.mpr z) | exact Int.not_lt.mp (fun z => h (q2.mpr z)) | exact Int.not_le.mp (fun z => h (q3.mpr z)) | exact Int.not_lt.mp (fun z => h (q4.mpr z)) | exact Int.not_le.mp (fun z => h (q5.mpr z)) | exact q2.mp h | exact q3.mp h | exact q4.mp h | exact q5.mp h
theorem zV_if_ne {off : Int} {tgt : Nat} (hd : decode mt.2.1 pc = .ok (.ifCond .ne off, 3) ∧ pc + 3 = n ∧ (pc : Int) + off = (tgt : Int)) (ha : I32 a) (kt : ¬ a = 0 → zV P mt sh u tgt L st mem Q) (kf : a = 0 → zV P mt sh u n L st mem Q) : zV P mt sh u pc L ((0, a) :: st) mem Q := by
  intro X p l ev s m args below meth c Z hP C R H locs ls hH hl hL
  rw [← hd.2.1] at kf
  have z0 : Int32.ofInt 0 = 0 := rfl
  have q1 := i32_eq ha i32_0
  have q2 := i32_lt ha i32_0
  have q3 := i32_le ha i32_0
  have q4 := i32_lt i32_0 ha
  have q5 := i32_le i32_0 ha
  rw [z0] at q1 q2 q3 q4 q5
  refine lv_if_ne C.1 C.2.1 hd.1 hd.2.2 (fun h => kt ?_ X p l ev s m args below meth c Z hP C R H locs ls hH hl hL) (fun h => kf ?_ X p l ev s m args below meth c Z hP C R H locs ls hH hl hL)
  · first | exact q1.mp h | exact fun z => h (q1.mpr z) | exact q2.mp h | exact q3.mp h | exact q4.mp h | exact q5.mp h
  · first | exact q1.mp h | exact fun z => h (q1.mpr z) | exact Int.not_lt.mp (fun z => h (q2.mpr z)) | exact Int.not_le.mp (fun z => h (q3.mpr z)) | exact Int.not_lt.mp (fun z => h (q4.mpr z)) | exact Int.not_le.mp (fun z => h (q5.mpr z)) | exact q2.mp h | exact q3.mp h | exact q4.mp h | exact q5.mp h
theorem zV_icmp_lt {off : Int} {tgt : Nat} (hd : decode mt.2.1 pc = .ok (.if_icmp .lt off, 3) ∧ pc + 3 = n ∧ (pc : Int) + off = (tgt : Int)) (ha : I32 a) (hb : I32 b) (kt : a < b → zV P mt sh u tgt L st mem Q) (kf : b ≤ a → zV P mt sh u n L st mem Q) : zV P mt sh u pc L ((0, b) :: (0, a) :: st) mem Q := by
  intro X p l ev s m args below meth c Z hP C R H locs ls hH hl hL
  rw [← hd.2.1] at kf
  have q1 := i32_eq ha hb
  have q2 := i32_lt ha hb
  have q3 := i32_le ha hb
  have q4 := i32_lt hb ha
  have q5 := i32_le hb ha
  refine lv_icmp_lt C.1 C.2.1 hd.1 hd.2.2 (fun h => kt ?_ X p l ev s m args below meth c Z hP C R H locs ls hH hl hL) (fun h => kf ?_ X p l ev s m args below meth c Z hP C R H locs ls hH hl hL)
  · first | exact q1.mp h | exact fun z => h (q1.mpr z) | exact q2.mp h | exact q3.mp h | exact q4.mp h | exact q5.mp h
  · first | exact q1.mp h | exact fun z => h (q1.mpr z) | exact Int.not_lt.mp (fun z => h (q2.mpr z)) | exact Int.not_le.mp (fun z => h (q3.mpr z)) | exact Int.not_lt.mp (fun z => h (q4.mpr z)) | exact Int.not_le.mp (fun z => h (q5.mpr z)) | exact q2.mp h | exact q3.mp h | exact q4.mp h | exact q5.mp h
theorem zV_if_lt {off : Int} {tgt : Nat} (hd : decode mt.2.1 pc = .ok (.ifCond .lt off, 3) ∧ pc + 3 = n ∧ (pc : Int) + off = (tgt : Int)) (ha : I32 a) (kt : a < 0 → zV P mt sh u tgt L st mem Q) (kf : 0 ≤ a → zV P mt sh u n L st mem Q) : zV P mt sh u pc L ((0, a) :: st) mem Q := by
  intro X p l ev s m args below meth c Z hP C R H locs ls hH hl hL
  rw [← hd.2.1] at kf
  have z0 : Int32.ofInt 0 = 0 := rfl
  have q1 := i32_eq ha i32_0
  have q2 := i32_lt ha i32_0
  have q3 := i32_le ha i32_0
  have q4 := i32_lt i32_0 ha
  have q5 := i32_le i32_0 ha
  rw [z0] at q1 q2 q3 q4 q5
  refine lv_if_lt C.1 C.2.1 hd.1 hd.2.2 (fun h => kt ?_ X p l ev s m args below meth c Z hP C R H locs ls hH hl hL) (fun h => kf ?_ X p l ev s m args below meth c Z hP C R H locs ls hH hl hL)
  · first | exact q1.mp h | exact fun z => h (q1.mpr z) | exact q2.mp h | exact q3.mp h | exact q4.mp h | exact q5.mp h
  · first | exact q1.mp h | exact fun z => h (q1.mpr z) | exact Int.not_lt.mp (fun z => h (q2.mpr z)) | exact Int.not_le.mp (fun z => h (q3.mpr z)) | exact Int.not_lt.mp (fun z => h (q4.mpr z)) | exact Int.not_le.mp (fun z => h (q5.mpr z)) | exact q2.mp h | exact q3.mp h | exact q4.mp h | exact q5.mp h
theorem zV_icmp_ge {off : Int} {tgt : Nat} (hd : decode mt.2.1 pc = .ok (.if_icmp .ge off, 3) ∧ pc + 3 = n ∧ (pc : Int) + off = (tgt : Int)) (ha : I32 a) (hb : I32 b) (kt : b ≤ a → zV P mt sh u tgt L st mem Q) (kf : a < b → zV P mt sh u n L st mem Q) : zV P mt sh u pc L ((0, b) :: (0, a) :: st) mem Q := by
  intro X p l ev s m args below meth c Z hP C R H locs ls hH hl hL
  rw [← hd.2.1] at kf
  have q1 := i32_eq ha hb
  have q2 := i32_lt ha hb
  have q3 := i32_le ha hb
  have q4 := i32_lt hb ha
  have q5 := i32_le hb ha
  refine lv_icmp_ge C.1 C.2.1 hd.1 hd.2.2 (fun h => kt ?_ X p l ev s m args below meth c Z hP C R H locs ls hH hl hL) (fun h => kf ?_ X p l ev s m args below meth c Z hP C R H locs ls hH hl hL)
  · first | exact q1.mp h | exact fun z => h (q1.mpr z) | exact q2.mp h | exact q3.mp h | exact q4.mp h | exact q5.mp h
  · first | exact q1.mp h | exact fun z => h (q1.mpr z) | exact Int.not_lt.mp (fun z => h (q2.mpr z)) | exact Int.not_le.mp (fun z => h (q3.mpr z)) | exact Int.not_lt.mp (fun z => h (q4.mpr z)) | exact Int.not_le.mp (fun z => h (q5.mpr z)) | exact q2.mp h | exact q3.mp h | exact q4.mp h | exact q5.mp h
theorem zV_if_ge {off : Int} {tgt : Nat} (hd : decode mt.2.1 pc = .ok (.ifCond .ge off, 3) ∧ pc + 3 = n ∧ (pc : Int) + off = (tgt : Int)) (ha : I32 a) (kt : 0 ≤ a → zV P mt sh u tgt L st mem Q) (kf : a < 0 → zV P mt sh u n L st mem Q) : zV P mt sh u pc L ((0, a) :: st) mem Q := by
  intro X p l ev s m args below meth c Z hP C R H locs ls hH hl hL
  rw [← hd.2.1] at kf
  have z0 : Int32.ofInt 0 = 0 := rfl
  have q1 := i32_eq ha i32_0
  have q2 := i32_lt ha i32_0
  have q3 := i32_le ha i32_0
  have q4 := i32_lt i32_0 ha
  have q5 := i32_le i32_0 ha
  rw [z0] at q1 q2 q3 q4 q5
  refine lv_if_ge C.1 C.2.1 hd.1 hd.2.2 (fun h => kt ?_ X p l ev s m args below meth c Z hP C R H locs ls hH hl hL) (fun h => kf ?_ X p l ev s m args below meth c Z hP C R H locs ls hH hl hL)
  · first | exact q1.mp h | exact fun z => h (q1.mpr z) | exact q2.mp h | exact q3.mp h | exact q4.mp h | exact q5.mp h
  · first | exact q1.mp h | exact fun z => h (q1.mpr z) | exact Int.not_lt.mp (fun z => h (q2.mpr z)) | exact Int.not_le.mp (fun z => h (q3.mpr z)) | exact Int.not_lt.mp (fun z => h (q4.mpr z)) | exact Int.not_le.mp (fun z => h (q5.mpr z)) | exact q2.mp h | exact q3.mp h | exact q4.mp h | exact q5.mp h
theorem zV_icmp_gt {off : Int} {tgt : Nat} (hd : decode mt.2.1 pc = .ok (.if_icmp .gt off, 3) ∧ pc + 3 = n ∧ (pc : Int) + off = (tgt : Int)) (ha : I32 a) (hb : I32 b) (kt : b < a → zV P mt sh u tgt L st mem Q) (kf : a ≤ b → zV P mt sh u n L st mem Q) : zV P mt sh u pc L ((0, b) :: (0, a) :: st) mem Q := by
  intro X p l ev s m args below meth c Z hP C R H locs ls hH hl hL
  rw [← hd.2.1] at kf
  have q1 := i32_eq ha hb
  have q2 := i32_lt ha hb
  have q3 := i32_le ha hb
  have q4 := i32_lt hb ha
  have q5 := i32_le hb ha
  refine lv_icmp_gt C.1 C.2.1 hd.1 hd.2.2 (fun h => kt ?_ X p l ev s m args below meth c Z hP C R H locs ls hH hl hL) (fun h => kf ?_ X p l ev s m args below meth c Z hP C R H locs ls hH hl hL)
  · first | exact q1.mp h | exact fun z => h (q1.mpr z) | exact q2.mp h | exact q3.mp h | exact q4.mp h | exact q5.mp h
  · first | exact q1.mp h | exact fun z => h (q1.mpr z) | exact Int.not_lt.mp (fun z => h (q2.mpr z)) | exact Int.not_le.mp (fun z => h (q3.mpr z)) | exact Int.not_lt.mp (fun z => h (q4.mpr z)) | exact Int.not_le.mp (fun z => h (q5.mpr z)) | exact q2.mp h | exact q3.mp h | exact q4.mp h | exact q5.mp h
theorem zV_if_gt {off : Int} {tgt : Nat} (hd : decode mt.2.1 pc = .ok (.ifCond .gt off, 3) ∧ pc + 3 = n ∧ (pc : Int) + off = (tgt : Int)) (ha : I32 a) (kt : 0 < a → zV P mt sh u tgt L st mem Q) (kf : a ≤ 0 → zV P mt sh u n L st mem Q) : zV P mt sh u pc L ((0, a) :: st) mem Q := by
  intro X p l ev s m args below meth c Z hP C R H locs ls hH hl hL
  rw [← hd.2.1] at kf
  have z0 : Int32.ofInt 0 = 0 := rfl
  have q1 := i32_eq ha i32_0
  have q2 := i32_lt ha i32_0
  have q3 := i32_le ha i32_0
  have q4 := i32_lt i32_0 ha
  have q5 := i32_le i32_0 ha
  rw [z0] at q1 q2 q3 q4 q5
  refine lv_if_gt C.1 C.2.1 hd.1 hd.2.2 (fun h => kt ?_ X p l ev s m args below meth c Z hP C R H locs ls hH hl hL) (fun h => kf ?_ X p l ev s m args below meth c Z hP C R H locs ls hH hl hL)
  · first | exact q1.mp h | exact fun z => h (q1.mpr z) | exact q2.mp h | exact q3.mp h | exact q4.mp h | exact q5.mp h
  · first | exact q1.mp h | exact fun z => h (q1.mpr z) | exact Int.not_lt.mp (fun z => h (q2.mpr z)) | exact Int.not_le.mp (fun z => h (q3.mpr z)) | exact Int.not_lt.mp (fun z => h (q4.mpr z)) | exact Int.not_le.mp (fun z => h (q5.mpr z)) | exact q2.mp h | exact q3.mp h | exact q4.mp h | exact q5.mp h
theorem zV_icmp_le {off : Int} {tgt : Nat} (hd : decode mt.2.1 pc = .ok (.if_icmp .le off, 3) ∧ pc + 3 = n ∧ (pc : Int) + off = (tgt : Int)) (ha : I32 a) (hb : I32 b) (kt : a ≤ b → zV P mt sh u tgt L st mem Q) (kf : b < a → zV P mt sh u n L st mem Q) : zV P mt sh u pc L ((0, b) :: (0, a) :: st) mem Q := by
  intro X p l ev s m args below meth c Z hP C R H locs ls hH hl hL
  rw [← hd.2.1] at kf
  have q1 := i32_eq ha hb
  have q2 := i32_lt ha hb
  have q3 := i32_le ha hb
  have q4 := i32_lt hb ha
  have q5 := i32_le hb ha
  refine lv_icmp_le C.1 C.2.1 hd.1 hd.2.2 (fun h => kt ?_ X p l ev s m args below meth c Z hP C R H locs ls hH hl hL) (fun h => kf ?_ X p l ev s m args below meth c Z hP C R H locs ls hH hl hL)
  · first | exact q1.mp h | exact fun z => h (q1.mpr z) | exact q2.mp h | exact q3.mp h | exact q4.mp h | exact q5.mp h
  · first | exact q1.mp h | exact fun z => h (q1.mpr z) | exact Int.not_lt.mp (fun z => h (q2.mpr z)) | exact Int.not_le.mp (fun z => h (q3.mpr z)) | exact Int.not_lt.mp (fun z => h (q4.mpr z)) | exact Int.not_le.mp (fun z => h (q5.mpr z)) | exact q2.mp h | exact q3.mp h | exact q4.mp h | exact q5.mp h
theorem zV_if_le {off : Int} {tgt : Nat} (hd : decode mt.2.1 pc = .ok (.ifCond .le off, 3) ∧ pc + 3 = n ∧ (pc : Int) + off = (tgt : Int)) (ha : I32 a) (kt : a ≤ 0 → zV P mt sh u tgt L st mem Q) (kf : 0 < a → zV P mt sh u n L st mem Q) : zV P mt sh u pc L ((0, a) :: st) mem Q := by
  intro X p l ev s m args below meth c Z hP C R H locs ls hH hl hL
  rw [← hd.2.1] at kf
  have z0 : Int32.ofInt 0 = 0 := rfl
  have q1 := i32_eq ha i32_0
  have q2 := i32_lt ha i32_0
  have q3 := i32_le ha i32_0
  have q4 := i32_lt i32_0 ha
  have q5 := i32_le i32_0 ha
  rw [z0] at q1 q2 q3 q4 q5
  refine lv_if_le C.1 C.2.1 hd.1 hd.2.2 (fun h => kt ?_ X p l ev s m args below meth c Z hP C R H locs ls hH hl hL) (fun h => kf ?_ X p l ev s m args below meth c Z hP C R H locs ls hH hl hL)
  · first | exact q1.mp h | exact fun z => h (q1.mpr z) | exact q2.mp h | exact q3.mp h | exact q4.mp h | exact q5.mp h
  · first | exact q1.mp h | exact fun z => h (q1.mpr z) | exact Int.not_lt.mp (fun z => h (q2.mpr z)) | exact Int.not_le.mp (fun z => h (q3.mpr z)) | exact Int.not_lt.mp (fun z => h (q4.mpr z)) | exact Int.not_le.mp (fun z => h (q5.mpr z)) | exact q2.mp h | exact q3.mp h | exact q4.mp h | exact q5.mp h
def zcm (a b : Int) : Int := if b < a then 1 else if a = b then 0 else -1
theorem zcm_r (a b : Int) : I32 (zcm a b) := by
  unfold zcm I32
  split
  · omega
  · split <;> omega
theorem zV_lcmp (hd : decode mt.2.1 pc = .ok (.lcmp, 1) ∧ pc + 1 = n) (ha : I64 a) (hb : I64 b) (k : zV P mt sh u n L ((0, zcm a b) :: st) mem Q) : zV P mt sh u pc L ((1, b) :: (1, a) :: st) mem Q := by
  intro X p l ev s m args below meth c Z hP C R H locs ls hH hl hL
  rw [← hd.2] at k
  have h2 := k X p l ev s m args below meth c Z hP C R H locs ls hH hl hL
  have e : zcV X (0, zcm a b) = .int (lg_cmp (Int64.ofInt a) (Int64.ofInt b)) := by
    have q1 := i64_lt hb ha
    have q2 := i64_eq ha hb
    show Value.int (Int32.ofInt _) = _
    unfold zcm lg_cmp
    by_cases h : b < a
    · simp [h, q1]
    · by_cases h3 : a = b
      · subst h3; simp
      · simp [h, h3, q1, q2]
  rw [List.map_cons, e] at h2
  exact W.lcmp C.1 C.2.1 hd.1 h2
theorem zV_lcmp_eq {off : Int} {n1 tgt : Nat} (hd : decode mt.2.1 pc = .ok (.lcmp, 1) ∧ pc + 1 = n1) (hd2 : decode mt.2.1 n1 = .ok (.ifCond .eq off, 3) ∧ n1 + 3 = n ∧ (n1 : Int) + off = (tgt : Int)) (ha : I64 a) (hb : I64 b) (kt : a = b → zV P mt sh u tgt L st mem Q) (kf : ¬ a = b → zV P mt sh u n L st mem Q) : zV P mt sh u pc L ((1, b) :: (1, a) :: st) mem Q := by
  refine zV_lcmp hd ha hb (zV_if_eq hd2 (zcm_r a b) (fun h => kt ?_) (fun h => kf ?_))
  · unfold zcm at h; split at h <;> (try split at h) <;> omega
  · unfold zcm at h; split at h <;> (try split at h) <;> omega
/-- two equal longs: no range is wanted -/
theorem zV_lcmp_same (hd : decode mt.2.1 pc = .ok (.lcmp, 1) ∧ pc + 1 = n) (he : a = b) (k : zV P mt sh u n L ((0, 0) :: st) mem Q) : zV P mt sh u pc L ((1, b) :: (1, a) :: st) mem Q := by
  intro X p l ev s m args below meth c Z hP C R H locs ls hH hl hL
  rw [← hd.2] at k
  have h2 := k X p l ev s m args below meth c Z hP C R H locs ls hH hl hL
  subst he
  have e : zcV X (0, 0) = .int (lg_cmp (Int64.ofInt a) (Int64.ofInt a)) := by
    show Value.int (Int32.ofInt 0) = _
    simp [lg_cmp]
  rw [List.map_cons, e] at h2
  exact W.lcmp C.1 C.2.1 hd.1 h2
theorem zV_lcmp_ne {off : Int} {n1 tgt : Nat} (hd : decode mt.2.1 pc = .ok (.lcmp, 1) ∧ pc + 1 = n1) (hd2 : decode mt.2.1 n1 = .ok (.ifCond .ne off, 3) ∧ n1 + 3 = n ∧ (n1 : Int) + off = (tgt : Int)) (ha : I64 a) (hb : I64 b) (kt : ¬ a = b → zV P mt sh u tgt L st mem Q) (kf : a = b → zV P mt sh u n L st mem Q) : zV P mt sh u pc L ((1, b) :: (1, a) :: st) mem Q := by
  refine zV_lcmp hd ha hb (zV_if_ne hd2 (zcm_r a b) (fun h => kt ?_) (fun h => kf ?_))
  · unfold zcm at h; split at h <;> (try split at h) <;> omega
  · unfold zcm at h; split at h <;> (try split at h) <;> omega
theorem zV_lcmp_lt {off : Int} {n1 tgt : Nat} (hd : decode mt.2.1 pc = .ok (.lcmp, 1) ∧ pc + 1 = n1) (hd2 : decode mt.2.1 n1 = .ok (.ifCond .lt off, 3) ∧ n1 + 3 = n ∧ (n1 : Int) + off = (tgt : Int)) (ha : I64 a) (hb : I64 b) (kt : a < b → zV P mt sh u tgt L st mem Q) (kf : b ≤ a → zV P mt sh u n L st mem Q) : zV P mt sh u pc L ((1, b) :: (1, a) :: st) mem Q := by
  refine zV_lcmp hd ha hb (zV_if_lt hd2 (zcm_r a b) (fun h => kt ?_) (fun h => kf ?_))
  · unfold zcm at h; split at h <;> (try split at h) <;> omega
  · unfold zcm at h; split at h <;> (try split at h) <;> omega
theorem zV_lcmp_ge {off : Int} {n1 tgt : Nat} (hd : decode mt.2.1 pc = .ok (.lcmp, 1) ∧ pc + 1 = n1) (hd2 : decode mt.2.1 n1 = .ok (.ifCond .ge off, 3) ∧ n1 + 3 = n ∧ (n1 : Int) + off = (tgt : Int)) (ha : I64 a) (hb : I64 b) (kt : b ≤ a → zV P mt sh u tgt L st mem Q) (kf : a < b → zV P mt sh u n L st mem Q) : zV P mt sh u pc L ((1, b) :: (1, a) :: st) mem Q := by
  refine zV_lcmp hd ha hb (zV_if_ge hd2 (zcm_r a b) (fun h => kt ?_) (fun h => kf ?_))
  · unfold zcm at h; split at h <;> (try split at h) <;> omega
  · unfold zcm at h; split at h <;> (try split at h) <;> omega
theorem zV_lcmp_gt {off : Int} {n1 tgt : Nat} (hd : decode mt.2.1 pc = .ok (.lcmp, 1) ∧ pc + 1 = n1) (hd2 : decode mt.2.1 n1 = .ok (.ifCond .gt off, 3) ∧ n1 + 3 = n ∧ (n1 : Int) + off = (tgt : Int)) (ha : I64 a) (hb : I64 b) (kt : b < a → zV P mt sh u tgt L st mem Q) (kf : a ≤ b → zV P mt sh u n L st mem Q) : zV P mt sh u pc L ((1, b) :: (1, a) :: st) mem Q := by
  refine zV_lcmp hd ha hb (zV_if_gt hd2 (zcm_r a b) (fun h => kt ?_) (fun h => kf ?_))
  · unfold zcm at h; split at h <;> (try split at h) <;> omega
  · unfold zcm at h; split at h <;> (try split at h) <;> omega
theorem zV_lcmp_le {off : Int} {n1 tgt : Nat} (hd : decode mt.2.1 pc = .ok (.lcmp, 1) ∧ pc + 1 = n1) (hd2 : decode mt.2.1 n1 = .ok (.ifCond .le off, 3) ∧ n1 + 3 = n ∧ (n1 : Int) + off = (tgt : Int)) (ha : I64 a) (hb : I64 b) (kt : a ≤ b → zV P mt sh u tgt L st mem Q) (kf : b < a → zV P mt sh u n L st mem Q) : zV P mt sh u pc L ((1, b) :: (1, a) :: st) mem Q := by
  refine zV_lcmp hd ha hb (zV_if_le hd2 (zcm_r a b) (fun h => kt ?_) (fun h => kf ?_))
  · unfold zcm at h; split at h <;> (try split at h) <;> omega
  · unfold zcm at h; split at h <;> (try split at h) <;> omega
theorem zV_tsIn {dflt lo hi : Int} {offs : Array Int} {len : Nat} {off : Int} {tgt : Nat} (hd : decode mt.2.1 pc = .ok (.tableswitch dflt lo hi offs, len)) (ha : I32 a) {v : Int} (hv : a = v) (ho : (¬ v < lo ∧ ¬ hi < v) ∧ offs[(v - lo).toNat]? = some off ∧ (pc : Int) + off = (tgt : Int)) (k : zV P mt sh u tgt L st mem Q) : zV P mt sh u pc L ((0, a) :: st) mem Q := by
  intro X p l ev s m args below meth c Z hP C R H locs ls hH hl hL
  subst hv
  have e : (Int32.ofInt a).toInt = a := i32_toInt ha
  exact lv_tableIn C.1 C.2.1 hd (by rw [e]; exact ho.1.1) (by rw [e]; exact ho.1.2) (by rw [e]; exact ho.2.1) ho.2.2 (k X p l ev s m args below meth c Z hP C R H locs ls hH hl hL)
theorem zV_tsOut {dflt lo hi : Int} {offs : Array Int} {len : Nat} {tgt : Nat} (hd : decode mt.2.1 pc = .ok (.tableswitch dflt lo hi offs, len)) (ha : I32 a) (ho : a < lo ∨ hi < a) (ht : (pc : Int) + dflt = (tgt : Int)) (k : zV P mt sh u tgt L st mem Q) : zV P mt sh u pc L ((0, a) :: st) mem Q := by
  intro X p l ev s m args below meth c Z hP C R H locs ls hH hl hL
  have e : (Int32.ofInt a).toInt = a := i32_toInt ha
  exact lv_tableOut C.1 C.2.1 hd (by rw [e]; exact ho) ht (k X p l ev s m args below meth c Z hP C R H locs ls hH hl hL)
theorem zV_lsw {dflt : Int} {ps : Array (Int × Int)} {len : Nat} {off : Int} {tgt : Nat} (hd : decode mt.2.1 pc = .ok (.lookupswitch dflt ps, len)) (ha : I32 a) (hp : (ps.toList.zip (ps.toList.drop 1)).all (fun (a, next) => a.1 < next.1) = true) (ho : Op.lookupswitch.offset ps.toList dflt a = off) (ht : (pc : Int) + off = (tgt : Int)) (k : zV P mt sh u tgt L st mem Q) : zV P mt sh u pc L ((0, a) :: st) mem Q := by
  intro X p l ev s m args below meth c Z hP C R H locs ls hH hl hL
  have e : (Int32.ofInt a).toInt = a := i32_toInt ha
  exact lv_lookup C.1 C.2.1 hd hp (by rw [e]; exact ho) ht (k X p l ev s m args below meth c Z hP C R H locs ls hH hl hL)
theorem zV_iret (hd : decode mt.2.1 pc = .ok (.ireturn, 1)) (hr : mt.2.2.2.1 = some .int) (hu : u.1 ≤ (zrm mt).cells ∧ u.2 ≤ (zrm mt).slots) (hq : Q (some (0, a)) sh mem) : zV P mt sh u pc L [(0, a)] mem Q := by
  intro X p l ev s m args below meth c Z hP C R H locs ls hH hl hL
  exact R pc ls H locs u.1 u.2 (some (0, a)) sh mem .ireturn hd (Or.inl ⟨rfl, a, rfl, Or.inl hr⟩) hH hl hu.1 hu.2 hq
theorem zV_zret (hd : decode mt.2.1 pc = .ok (.ireturn, 1)) (hr : mt.2.2.2.1 = some .boolean) (hu : u.1 ≤ (zrm mt).cells ∧ u.2 ≤ (zrm mt).slots) (hb : a = 0 ∨ a = 1) (hq : Q (some (0, a)) sh mem) : zV P mt sh u pc L [(0, a)] mem Q := by
  intro X p l ev s m args below meth c Z hP C R H locs ls hH hl hL
  exact R pc ls H locs u.1 u.2 (some (0, a)) sh mem .ireturn hd (Or.inl ⟨rfl, a, rfl, Or.inr ⟨hr, hb⟩⟩) hH hl hu.1 hu.2 hq
theorem zV_lret (hd : decode mt.2.1 pc = .ok (.lreturn, 1)) (hr : mt.2.2.2.1 = some .long) (hu : u.1 ≤ (zrm mt).cells ∧ u.2 ≤ (zrm mt).slots) (hq : Q (some (1, a)) sh mem) : zV P mt sh u pc L [(1, a)] mem Q := by
  intro X p l ev s m args below meth c Z hP C R H locs ls hH hl hL
  exact R pc ls H locs u.1 u.2 (some (1, a)) sh mem .lreturn hd (Or.inr (Or.inl ⟨rfl, hr, a, rfl⟩)) hH hl hu.1 hu.2 hq
theorem zV_vret (hd : decode mt.2.1 pc = .ok (.return_, 1)) (hr : mt.2.2.2.1 = none) (hu : u.1 ≤ (zrm mt).cells ∧ u.2 ≤ (zrm mt).slots) (hq : Q none sh mem) : zV P mt sh u pc L [] mem Q := by
  intro X p l ev s m args below meth c Z hP C R H locs ls hH hl hL
  exact R pc ls H locs u.1 u.2 none sh mem .return_ hd (Or.inr (Or.inr ⟨rfl, hr, rfl⟩)) hH hl hu.1 hu.2 hq
end zRULES
