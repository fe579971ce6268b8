/-! division of numbers that aren't negative -/
section zDIV
variable {P : zCT → Prop} {mt : zMT} {sh : zSh} {u : Nat × Nat} {pc n : Nat} {L : List (Option zAV)} {st : List zAV} {mem : zMem} {Q : zQT} {a b : Int}
theorem zV_irem_p (hd : decode mt.2.1 pc = .ok (.irem, 1) ∧ pc + 1 = n) (ha : 0 ≤ a ∧ a < 2147483648) (hb : 0 < b ∧ b < 2147483648) (k : zV P mt sh u n L ((0, a % b) :: st) mem Q) : zV P mt sh u pc L ((0, b) :: (0, a) :: st) mem Q :=
  zV_irem hd (by omega) (by omega) (by omega) (by rw [Int.tmod_eq_emod_of_nonneg ha.1]; exact k)
theorem zV_idiv_p (hd : decode mt.2.1 pc = .ok (.idiv, 1) ∧ pc + 1 = n) (ha : 0 ≤ a ∧ a < 2147483648) (hb : 0 < b ∧ b < 2147483648) (k : zV P mt sh u n L ((0, a / b) :: st) mem Q) : zV P mt sh u pc L ((0, b) :: (0, a) :: st) mem Q :=
  zV_idiv hd (by omega) (by omega) (by omega) (by rw [Int.tdiv_eq_ediv_of_nonneg ha.1]; exact k)
theorem zV_lrem_p (hd : decode mt.2.1 pc = .ok (.lrem, 1) ∧ pc + 1 = n) (ha : 0 ≤ a ∧ a < 9223372036854775808) (hb : 0 < b ∧ b < 9223372036854775808) (k : zV P mt sh u n L ((1, a % b) :: st) mem Q) : zV P mt sh u pc L ((1, b) :: (1, a) :: st) mem Q :=
  zV_lrem hd (by omega) (by omega) (by omega) (by rw [Int.tmod_eq_emod_of_nonneg ha.1]; exact k)
theorem zV_ldiv_p (hd : decode mt.2.1 pc = .ok (.ldiv, 1) ∧ pc + 1 = n) (ha : 0 ≤ a ∧ a < 9223372036854775808) (hb : 0 < b ∧ b < 9223372036854775808) (k : zV P mt sh u n L ((1, a / b) :: st) mem Q) : zV P mt sh u pc L ((1, b) :: (1, a) :: st) mem Q :=
  zV_ldiv hd (by omega) (by omega) (by omega) (by rw [Int.tdiv_eq_ediv_of_nonneg ha.1]; exact k)
end zDIV
def xr64 (a b : Int) : Int := (Int64.ofInt a ^^^ Int64.ofInt b).toInt
def xr32 (a b : Int) : Int := (Int32.ofInt a ^^^ Int32.ofInt b).toInt
theorem xr64_v (a b : Int) : Int64.ofInt a ^^^ Int64.ofInt b = Int64.ofInt (xr64 a b) := (Int64.ofInt_toInt _).symm
theorem xr32_v (a b : Int) : Int32.ofInt a ^^^ Int32.ofInt b = Int32.ofInt (xr32 a b) := (Int32.ofInt_toInt _).symm
theorem xr64_i (a b : Int) : I64 (xr64 a b) := by
  have h1 := Int64.le_toInt (Int64.ofInt a ^^^ Int64.ofInt b)
  have h2 := Int64.toInt_lt (Int64.ofInt a ^^^ Int64.ofInt b)
  unfold xr64
  exact ⟨by simpa using h1, by simpa using h2⟩
theorem xr32_i (a b : Int) : I32 (xr32 a b) := by
  have h1 := Int32.le_toInt (Int32.ofInt a ^^^ Int32.ofInt b)
  have h2 := Int32.toInt_lt (Int32.ofInt a ^^^ Int32.ofInt b)
  unfold xr32
  exact ⟨by simpa using h1, by simpa using h2⟩
theorem xr64_s {a b : Int} (ha : I64 a) (hb : I64 b) : xr64 a b < 0 ↔ ¬ (a < 0 ↔ b < 0) := by
  have e : ∀ x : Int64, x.toInt < 0 ↔ x.toBitVec.msb = true := fun x => by
    rw [BitVec.msb_eq_toInt]
    simp only [decide_eq_true_eq]
    rfl
  unfold xr64
  have h1 := e (Int64.ofInt a)
  have h2 := e (Int64.ofInt b)
  rw [i64_toInt ha] at h1
  rw [i64_toInt hb] at h2
  rw [e, Int64.toBitVec_xor, BitVec.msb_xor, h1, h2]
  cases (Int64.ofInt a).toBitVec.msb <;> cases (Int64.ofInt b).toBitVec.msb <;> simp
theorem xr32_s {a b : Int} (ha : I32 a) (hb : I32 b) : xr32 a b < 0 ↔ ¬ (a < 0 ↔ b < 0) := by
  have e : ∀ x : Int32, x.toInt < 0 ↔ x.toBitVec.msb = true := fun x => by
    rw [BitVec.msb_eq_toInt]
    simp only [decide_eq_true_eq]
    rfl
  unfold xr32
  have h1 := e (Int32.ofInt a)
  have h2 := e (Int32.ofInt b)
  rw [i32_toInt ha] at h1
  rw [i32_toInt hb] at h2
  rw [e, Int32.toBitVec_xor, BitVec.msb_xor, h1, h2]
  cases (Int32.ofInt a).toBitVec.msb <;> cases (Int32.ofInt b).toBitVec.msb <;> simp
theorem tdiv_flo {a b : Int} (hb : 0 < b) : (a < 0 ∧ a.tdiv b * b ≠ a → a / b = a.tdiv b - 1) ∧ (¬ (a < 0 ∧ a.tdiv b * b ≠ a) → a / b = a.tdiv b) := by
  rw [Int.tdiv_eq_ediv]
  have h1 := Int.emod_add_mul_ediv a b
  have h2 := Int.emod_nonneg a (Int.ne_of_gt hb)
  have h3 := Int.emod_lt_of_pos a hb
  have hs : b.sign = 1 := Int.sign_eq_one_of_pos hb
  rw [hs]
  have hc : b * (a / b) = a / b * b := Int.mul_comm _ _
  by_cases hd : b ∣ a
  · have h4 : a % b = 0 := Int.emod_eq_zero_of_dvd hd
    rw [if_pos (Or.inr hd)]
    refine ⟨fun h => absurd ?_ h.2, fun _ => by omega⟩
    rw [Int.add_zero]
    omega
  · by_cases ha : 0 ≤ a
    · rw [if_pos (Or.inl ha)]
      exact ⟨fun h => by omega, fun _ => by omega⟩
    · rw [if_neg (by intro h; rcases h with h | h; exact ha h; exact hd h)]
      refine ⟨fun _ => by omega, fun h => absurd ⟨by omega, ?_⟩ h⟩
      rw [Int.add_mul]
      intro q
      apply hd
      refine ⟨a / b + 1, ?_⟩
      rw [Int.mul_add]
      omega
theorem tmod_np {a b : Int} (h : a ≤ 0) : Int.tmod a b ≤ 0 := by
  have := Int.tmod_nonneg b (show 0 ≤ -a by omega)
  rw [Int.neg_tmod] at this
  omega
theorem zup_c {mem : zMem} {a k v a' k' : Int} (h : a' ≠ a) : zup mem a k v a' k' = mem a' k' := by
  unfold zup
  rw [if_neg (fun q => h q.1)]
theorem zup_k {mem : zMem} {a k v a' k' : Int} (h : k' ≠ k) : zup mem a k v a' k' = mem a' k' := by
  unfold zup
  rw [if_neg (fun q => h q.2)]
theorem zup_s {mem : zMem} {a k v : Int} : zup mem a k v a k = v := if_pos ⟨rfl, rfl⟩
/-- locals that are not looked at any more -/
def zle : List (Option zAV) → List (Option zAV) → Prop
  | [], _ => True
  | none :: l, [] => zle l []
  | none :: l, _ :: m => zle l m
  | some _ :: _, [] => False
  | some v :: l, x :: m => x = some v ∧ zle l m
theorem zle_gl : ∀ (l m : List (Option zAV)) (i : Nat) (v : zAV), zle l m → zgl l i = some v → zgl m i = some v
  | [], _, i, v, _, h => by simp [zgl] at h
  | none :: l, [], 0, v, _, h => by cases h
  | none :: l, [], i + 1, v, hl, h => by
    have := zle_gl l [] i v hl h
    simp [zgl] at this
  | none :: l, _ :: m, 0, v, _, h => by cases h
  | none :: l, _ :: m, i + 1, v, hl, h => zle_gl l m i v hl h
  | some _ :: _, [], _, _, hl, _ => hl.elim
  | some w :: l, x :: m, 0, v, hl, h => hl.1.trans h
  | some w :: l, x :: m, i + 1, v, hl, h => zle_gl l m i v hl.2 h
theorem zV_forget {P : zCT → Prop} {mt : zMT} {sh : zSh} {u : Nat × Nat} {pc : Nat} {L L' : List (Option zAV)} {st : List zAV} {mem : zMem} {Q : zQT} (h : zle L' L) (k : zV P mt sh u pc L' st mem Q) : zV P mt sh u pc L st mem Q := by
  intro X p l ev s m args below meth c Z hP C R H locs ls hH hl hL
  exact k X p l ev s m args below meth c Z hP C R H locs ls hH hl ⟨hL.1, hL.2.1, fun i v hv => hL.2.2 i v (zle_gl L' L i v h hv)⟩
