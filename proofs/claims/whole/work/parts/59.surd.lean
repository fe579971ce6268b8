/-! signs of numbers with roots, told by whole approximations -/
def fsq : Nat → Nat
  | 0 => 0
  | n + 1 => if (fsq n + 1) * (fsq n + 1) ≤ n + 1 then fsq n + 1 else fsq n
theorem fsq_sp : ∀ n : Nat, fsq n * fsq n ≤ n ∧ n < (fsq n + 1) * (fsq n + 1)
  | 0 => ⟨Nat.le_refl _, by decide⟩
  | n + 1 => by
    have ih := fsq_sp n
    have e : fsq (n + 1) = if (fsq n + 1) * (fsq n + 1) ≤ n + 1 then fsq n + 1 else fsq n := rfl
    generalize fsq n = x at *
    rw [e]
    by_cases h : (x + 1) * (x + 1) ≤ n + 1
    · rw [if_pos h]
      have e2 : (x + 1 + 1) * (x + 1 + 1) = (x + 1) * (x + 1) + 2 * x + 3 := by grind
      omega
    · rw [if_neg h]
      omega
def rsq (d N : Int) : Int := (fsq (d * N * N).toNat : Int)
theorem sqn (v : Int) : 0 ≤ v * v := by
  rcases Int.le_total 0 v with h | h
  · exact Int.mul_nonneg h h
  · have := Int.mul_nonneg (show 0 ≤ -v by omega) (show 0 ≤ -v by omega)
    rw [Int.neg_mul_neg] at this
    exact this
theorem sq_lt {a b : Int} (hb : 0 ≤ b) (h : a * a < b * b) : a < b := by
  apply Int.not_le.mp
  intro hba
  have := Int.mul_le_mul hba hba hb (by omega)
  omega
theorem sq_le {a b : Int} (hb : 0 ≤ b) (h : a * a ≤ b * b) : a ≤ b := by
  apply Int.not_lt.mp
  intro hba
  have := Int.mul_pos (show 0 < a - b by omega) (show 0 < a + b by omega)
  have e : (a - b) * (a + b) = a * a - b * b := by grind
  omega
theorem mpos {k x : Int} (hk : 0 ≤ k) (h : 0 < k * x) : 0 < x := by
  apply Int.not_le.mp
  intro hx
  have := Int.mul_nonneg hk (show 0 ≤ -x by omega)
  rw [Int.mul_neg] at this
  omega
theorem mcan {n a b : Int} (hn : 0 < n) (h : n * a ≤ n * b) : a ≤ b := Int.le_of_mul_le_mul_left h hn
theorem mmul {a b c : Int} (h : a ≤ b) (hc : 0 ≤ c) : c * a ≤ c * b := Int.mul_le_mul_of_nonneg_left h hc
theorem rsq_sp {d N : Int} (hd : 0 ≤ d) (hN : 0 ≤ N) : 0 ≤ rsq d N ∧ rsq d N * rsq d N ≤ d * N * N ∧ d * N * N < (rsq d N + 1) * (rsq d N + 1) := by
  have h1 := fsq_sp (d * N * N).toNat
  have h0 : 0 ≤ d * N * N := Int.mul_nonneg (Int.mul_nonneg hd hN) hN
  unfold rsq
  generalize d * N * N = z at *
  generalize fsq z.toNat = x at *
  have a := Int.ofNat_le.mpr h1.1
  have b := Int.ofNat_lt.mpr h1.2
  rw [Int.natCast_mul] at a b
  rw [Int.natCast_add, Int.natCast_one] at b
  omega
theorem rsq_up {d N : Int} (hd : 0 ≤ d) (hN : 0 < N) : rsq d N ≤ d * N := by
  obtain ⟨a, b, c⟩ := rsq_sp hd (Int.le_of_lt hN)
  apply sq_le (Int.mul_nonneg hd (Int.le_of_lt hN))
  by_cases e : d = 0
  · subst e
    simp at b ⊢
    exact b
  · have h1 := mmul (show 1 ≤ d by omega) (Int.mul_nonneg (Int.mul_nonneg hd (Int.le_of_lt hN)) (Int.le_of_lt hN))
    have e2 : d * N * (d * N) = d * N * N * d := by grind
    omega
theorem rsq_lo {d N : Int} (hd : 1 ≤ d) (hN : 0 < N) : N ≤ rsq d N := by
  obtain ⟨a, b, c⟩ := rsq_sp (show 0 ≤ d by omega) (Int.le_of_lt hN)
  have h1 : N * N ≤ d * N * N := by
    have := mmul hd (sqn N)
    have e2 : N * N * d = d * N * N := by grind
    omega
  have := sq_lt (show 0 ≤ rsq d N + 1 by omega) (Int.lt_of_le_of_lt h1 c)
  omega
theorem rsq_er {d N : Int} (hd : 0 ≤ d) (hN : 0 < N) : 0 ≤ d * N * N - rsq d N * rsq d N ∧ d * N * N - rsq d N * rsq d N ≤ 2 * d * N := by
  obtain ⟨a, b, c⟩ := rsq_sp hd (Int.le_of_lt hN)
  have h := rsq_up hd hN
  have e : (rsq d N + 1) * (rsq d N + 1) = rsq d N * rsq d N + 2 * rsq d N + 1 := by grind
  have e2 : 2 * d * N = 2 * (d * N) := by grind
  omega
def sPos (f : Int → Int) : Prop := ∃ K : Int, 0 < K ∧ ∀ N, K ≤ N → N ≤ K * f N
def sBd (f : Int → Int) : Prop := ∃ K : Int, 0 < K ∧ ∀ N, K ≤ N → -K ≤ f N ∧ f N ≤ K
def sLe (f : Int → Int) : Prop := ∃ K : Int, 0 < K ∧ ∀ N, K ≤ N → -(K * N) ≤ f N ∧ f N ≤ K * N
def sSg (s : Int) (f : Int → Int) : Prop := (s = 1 ∧ sPos f) ∨ (s = 0 ∧ sBd f) ∨ (s = -1 ∧ sPos (fun N => -f N))
theorem sPos_add {f g : Int → Int} (hf : sPos f) (hg : sPos g) : sPos (fun N => f N + g N) := by
  obtain ⟨K, k0, hK⟩ := hf
  obtain ⟨J, j0, hJ⟩ := hg
  refine ⟨K + J, by omega, fun N hN => ?_⟩
  have a := hK N (by omega)
  have b := hJ N (by omega)
  have a1 := mpos (by omega) (show 0 < K * f N by omega)
  have b1 := mpos (by omega) (show 0 < J * g N by omega)
  have p1 := Int.mul_nonneg (show 0 ≤ K by omega) (show 0 ≤ g N by omega)
  have p2 := Int.mul_nonneg (show 0 ≤ J by omega) (show 0 ≤ f N + g N by omega)
  have e : (K + J) * (f N + g N) = K * f N + K * g N + J * (f N + g N) := by grind
  show N ≤ (K + J) * (f N + g N)
  omega
theorem sPos_bd {f g : Int → Int} (hf : sPos f) (hg : sBd g) : sPos (fun N => f N + g N) := by
  obtain ⟨K, k0, hK⟩ := hf
  obtain ⟨C, c0, hC⟩ := hg
  have z := Int.mul_pos k0 c0
  refine ⟨2 * K + 2 * (K * C) + C, by omega, fun N hN => ?_⟩
  have a := hK N (by omega)
  have b := hC N (by omega)
  have p1 := mmul b.1 (show 0 ≤ K by omega)
  rw [Int.mul_neg] at p1
  have e1 : 2 * K * (f N + g N) = 2 * (K * f N) + 2 * (K * g N) := by grind
  have q : N ≤ 2 * K * (f N + g N) := by omega
  have q1 := mpos (show 0 ≤ 2 * K by omega) (show 0 < 2 * K * (f N + g N) by omega)
  have p2 := Int.mul_nonneg (show 0 ≤ 2 * (K * C) + C by omega) (show 0 ≤ f N + g N by omega)
  have e2 : (2 * K + 2 * (K * C) + C) * (f N + g N) = 2 * K * (f N + g N) + (2 * (K * C) + C) * (f N + g N) := by grind
  show N ≤ (2 * K + 2 * (K * C) + C) * (f N + g N)
  omega
theorem sBd_add {f g : Int → Int} (hf : sBd f) (hg : sBd g) : sBd (fun N => f N + g N) := by
  obtain ⟨K, k0, hK⟩ := hf
  obtain ⟨J, j0, hJ⟩ := hg
  refine ⟨K + J, by omega, fun N hN => ?_⟩
  have a := hK N (by omega)
  have b := hJ N (by omega)
  show -(K + J) ≤ f N + g N ∧ f N + g N ≤ K + J
  omega
theorem sBd_neg {f : Int → Int} (hf : sBd f) : sBd (fun N => -f N) := by
  obtain ⟨K, k0, hK⟩ := hf
  refine ⟨K, k0, fun N hN => ?_⟩
  have a := hK N hN
  show -K ≤ -f N ∧ -f N ≤ K
  omega
theorem sLe_add {f g : Int → Int} (hf : sLe f) (hg : sLe g) : sLe (fun N => f N + g N) := by
  obtain ⟨K, k0, hK⟩ := hf
  obtain ⟨J, j0, hJ⟩ := hg
  refine ⟨K + J, by omega, fun N hN => ?_⟩
  have a := hK N (by omega)
  have b := hJ N (by omega)
  have e : (K + J) * N = K * N + J * N := by grind
  show -((K + J) * N) ≤ f N + g N ∧ f N + g N ≤ (K + J) * N
  omega
theorem sLe_neg {f : Int → Int} (hf : sLe f) : sLe (fun N => -f N) := by
  obtain ⟨K, k0, hK⟩ := hf
  refine ⟨K, k0, fun N hN => ?_⟩
  have a := hK N hN
  show -(K * N) ≤ -f N ∧ -f N ≤ K * N
  omega
theorem sLe_smul {f : Int → Int} (c : Int) (hf : sLe f) : sLe (fun N => c * f N) := by
  obtain ⟨K, k0, hK⟩ := hf
  refine ⟨K * (c * c + 1), Int.mul_pos k0 (by have := sqn c; omega), fun N hN => ?_⟩
  have hc := sqn c
  have z := Int.mul_nonneg (show 0 ≤ K by omega) hc
  have e0 : K * (c * c + 1) = K * (c * c) + K := by grind
  have a := hK N (by omega)
  have hkn := Int.mul_nonneg (show 0 ≤ K by omega) (show 0 ≤ N by omega)
  have p := mb (A := c * c + 1) (B := K * N) (a := c) (b := f N) (by
    rcases Int.lt_or_le c 0 with h | h
    · have := Int.mul_nonneg (show 0 ≤ -c by omega) (show 0 ≤ -c - 1 by omega)
      have e : -c * (-c - 1) = c * c + c := by grind
      omega
    · rcases Int.lt_or_le c 1 with h2 | h2
      · have e : c = 0 := by omega
        subst e
        decide
      · have := Int.mul_nonneg (show 0 ≤ c by omega) (show 0 ≤ c - 1 by omega)
        have e : c * (c - 1) = c * c - c := by grind
        omega) a
  have e : (c * c + 1) * (K * N) = K * (c * c + 1) * N := by grind
  rw [e] at p
  exact p
theorem sLe_id : sLe (fun N => N) := ⟨1, by decide, fun N hN => by show -(1 * N) ≤ N ∧ N ≤ 1 * N; omega⟩
theorem sLe_r {d : Int} (hd : 0 ≤ d) : sLe (fun N => rsq d N) := by
  refine ⟨d + 1, by omega, fun N hN => ?_⟩
  have a := rsq_up hd (show 0 < N by omega)
  have b := (rsq_sp hd (show 0 ≤ N by omega)).1
  have h := Int.mul_nonneg hd (show 0 ≤ N by omega)
  have e : (d + 1) * N = d * N + N := by grind
  show -((d + 1) * N) ≤ rsq d N ∧ rsq d N ≤ (d + 1) * N
  omega
theorem sLe_er {d : Int} (hd : 0 ≤ d) : sLe (fun N => d * N * N - rsq d N * rsq d N) := by
  refine ⟨2 * d + 1, by omega, fun N hN => ?_⟩
  have a := rsq_er hd (show 0 < N by omega)
  have h := Int.mul_nonneg hd (show 0 ≤ N by omega)
  have e : (2 * d + 1) * N = 2 * (d * N) + N := by grind
  have e2 : 2 * d * N = 2 * (d * N) := by grind
  show -((2 * d + 1) * N) ≤ d * N * N - rsq d N * rsq d N ∧ d * N * N - rsq d N * rsq d N ≤ (2 * d + 1) * N
  omega
theorem sLe_eq {f g : Int → Int} (h : ∀ N, 0 < N → f N = g N) (hf : sLe f) : sLe g := by
  obtain ⟨K, k0, hK⟩ := hf
  exact ⟨K, k0, fun N hN => by rw [← h N (by omega)]; exact hK N hN⟩
theorem sSg_eq {s : Int} {f g : Int → Int} (h : ∀ N, 0 < N → f N = g N) (hf : sSg s f) : sSg s g := by
  rcases hf with ⟨e, K, k0, hK⟩ | ⟨e, K, k0, hK⟩ | ⟨e, K, k0, hK⟩
  · exact Or.inl ⟨e, K, k0, fun N hN => by rw [← h N (by omega)]; exact hK N hN⟩
  · exact Or.inr (Or.inl ⟨e, K, k0, fun N hN => by rw [← h N (by omega)]; exact hK N hN⟩)
  · exact Or.inr (Or.inr ⟨e, K, k0, fun N hN => by show N ≤ K * -g N; rw [← h N (by omega)]; exact hK N hN⟩)
theorem sPos_no {f : Int → Int} (h1 : sPos f) (h2 : sBd f) : False := by
  obtain ⟨K, k0, hK⟩ := h1
  obtain ⟨C, c0, hC⟩ := h2
  have z := Int.mul_pos k0 c0
  have a := hK (K * C + K + C) (by omega)
  have b := hC (K * C + K + C) (by omega)
  have := mmul b.2 (show 0 ≤ K by omega)
  omega
theorem sPos_nn {f : Int → Int} (h1 : sPos f) (h2 : sPos (fun N => -f N)) : False := by
  obtain ⟨K, k0, hK⟩ := h1
  obtain ⟨C, c0, hC⟩ := h2
  have a := hK (K + C) (by omega)
  have b : K + C ≤ C * -f (K + C) := hC (K + C) (by omega)
  have a1 := mpos (by omega) (show 0 < K * f (K + C) by omega)
  have b1 := mpos (by omega) (show 0 < C * -f (K + C) by omega)
  omega
theorem sSg_neg {s : Int} {f : Int → Int} (h : sSg s f) : sSg (-s) (fun N => -f N) := by
  rcases h with ⟨e, h⟩ | ⟨e, h⟩ | ⟨e, h⟩
  · refine Or.inr (Or.inr ⟨by omega, ?_⟩)
    obtain ⟨K, k0, hK⟩ := h
    exact ⟨K, k0, fun N hN => by show N ≤ K * - -f N; rw [Int.neg_neg]; exact hK N hN⟩
  · exact Or.inr (Or.inl ⟨by omega, sBd_neg h⟩)
  · exact Or.inl ⟨by omega, h⟩
theorem sSg_uq {s t : Int} {f : Int → Int} (h : sSg s f) (h' : sSg t f) : s = t := by
  have n3 : ∀ {g : Int → Int}, sPos (fun N => -g N) → sBd g → False := fun a b => sPos_no a (sBd_neg b)
  rcases h with ⟨e, h⟩ | ⟨e, h⟩ | ⟨e, h⟩ <;> rcases h' with ⟨e', h'⟩ | ⟨e', h'⟩ | ⟨e', h'⟩
  · omega
  · exact (sPos_no h h').elim
  · exact (sPos_nn h h').elim
  · exact (sPos_no h' h).elim
  · omega
  · exact (n3 h' h).elim
  · exact (sPos_nn h' h).elim
  · exact (n3 h h').elim
  · omega
theorem sSg_bd {s : Int} {f g : Int → Int} (h : sSg s f) (hg : sBd g) : sSg s (fun N => f N + g N) := by
  rcases h with ⟨e, h⟩ | ⟨e, h⟩ | ⟨e, h⟩
  · exact Or.inl ⟨e, sPos_bd h hg⟩
  · exact Or.inr (Or.inl ⟨e, sBd_add h hg⟩)
  · refine Or.inr (Or.inr ⟨e, ?_⟩)
    obtain ⟨K, k0, hK⟩ := sPos_bd h (sBd_neg hg)
    exact ⟨K, k0, fun N hN => by show N ≤ K * -(f N + g N); rw [Int.neg_add]; exact hK N hN⟩
theorem sSg_3 {s : Int} {f : Int → Int} (h : sSg s f) : s = -1 ∨ s = 0 ∨ s = 1 := by
  rcases h with ⟨e, _⟩ | ⟨e, _⟩ | ⟨e, _⟩ <;> omega
theorem sSg_0 {f : Int → Int} (h : sSg 0 f) : sBd f := by
  rcases h with ⟨e, _⟩ | ⟨_, h⟩ | ⟨e, _⟩
  · omega
  · exact h
  · omega
theorem sSg_p {f : Int → Int} (h : sSg 1 f) : sPos f := by
  rcases h with ⟨_, h⟩ | ⟨e, _⟩ | ⟨e, _⟩
  · exact h
  · omega
  · omega
theorem sSg_n {f : Int → Int} (h : sSg (-1) f) : sPos (fun N => -f N) := by
  rcases h with ⟨e, _⟩ | ⟨e, _⟩ | ⟨_, h⟩
  · omega
  · omega
  · exact h
/-- like signs add -/
theorem sSg_add {s : Int} {f g : Int → Int} (h : sSg s f) (h' : sSg s g) : sSg s (fun N => f N + g N) := by
  rcases sSg_3 h with e | e | e <;> subst e
  · refine Or.inr (Or.inr ⟨rfl, ?_⟩)
    obtain ⟨K, k0, hK⟩ := sPos_add (sSg_n h) (sSg_n h')
    exact ⟨K, k0, fun N hN => by show N ≤ K * -(f N + g N); rw [Int.neg_add]; exact hK N hN⟩
  · exact sSg_bd h (sSg_0 h')
  · exact Or.inl ⟨rfl, sPos_add (sSg_p h) (sSg_p h')⟩
theorem sSg_add2 {s t : Int} {f g : Int → Int} (h : sSg s f) (h' : sSg t g) (hst : t = 0 ∨ s = t) : sSg s (fun N => f N + g N) := by
  rcases hst with e | e
  · subst e
    exact sSg_bd h (sSg_0 h')
  · subst e
    exact sSg_add h h'
theorem sSg_mul {s c : Int} {f : Int → Int} (hc : 0 < c) (h : sSg s f) : sSg s (fun N => c * f N) := by
  have pp : ∀ g : Int → Int, sPos g → sPos (fun N => c * g N) := fun g ⟨K, k0, hK⟩ => ⟨K, k0, fun N hN => by
    have a := hK N hN
    have p := Int.mul_nonneg (show 0 ≤ c - 1 by omega) (show 0 ≤ K * g N by omega)
    have e : K * (c * g N) = K * g N + (c - 1) * (K * g N) := by grind
    show N ≤ K * (c * g N)
    omega⟩
  rcases h with ⟨e, h⟩ | ⟨e, h⟩ | ⟨e, h⟩
  · exact Or.inl ⟨e, pp _ h⟩
  · refine Or.inr (Or.inl ⟨e, ?_⟩)
    obtain ⟨K, k0, hK⟩ := h
    refine ⟨c * K + K, by have := Int.mul_pos hc k0; omega, fun N hN => ?_⟩
    have := Int.mul_pos hc k0
    have a := hK N (by omega)
    have p1 := mmul a.1 (show 0 ≤ c by omega)
    have p2 := mmul a.2 (show 0 ≤ c by omega)
    rw [Int.mul_neg] at p1
    show -(c * K + K) ≤ c * f N ∧ c * f N ≤ c * K + K
    omega
  · refine Or.inr (Or.inr ⟨e, ?_⟩)
    obtain ⟨K, k0, hK⟩ := pp _ h
    exact ⟨K, k0, fun N hN => by show N ≤ K * -(c * f N); rw [← Int.mul_neg]; exact hK N hN⟩
theorem sSg_div {s c : Int} {f : Int → Int} (hc : 0 < c) (h : sSg s (fun N => c * f N)) : sSg s f := by
  have pp : ∀ {g : Int → Int}, sPos (fun N => c * g N) → sPos g := fun ⟨K, k0, hK⟩ => by
    have z := Int.mul_pos k0 hc
    have z2 := mmul (show 1 ≤ c by omega) (show 0 ≤ K by omega)
    refine ⟨K * c, z, fun N hN => ?_⟩
    have a := hK N (by omega)
    rw [Int.mul_assoc]
    exact a
  rcases h with ⟨e, h⟩ | ⟨e, h⟩ | ⟨e, h⟩
  · exact Or.inl ⟨e, pp h⟩
  · refine Or.inr (Or.inl ⟨e, ?_⟩)
    obtain ⟨K, k0, hK⟩ := h
    refine ⟨K, k0, fun N hN => ?_⟩
    have a : -K ≤ c * f N ∧ c * f N ≤ K := hK N hN
    constructor
    · apply Int.not_lt.mp
      intro q
      have := mmul (show f N ≤ -K - 1 by omega) (show 0 ≤ c by omega)
      have e : c * (-K - 1) = -(c * K) - c := by grind
      have z2 := mmul (show 1 ≤ c by omega) (show 0 ≤ K by omega)
      have z3 : c * K = K * c := Int.mul_comm _ _
      omega
    · apply Int.not_lt.mp
      intro q
      have := mmul (show K + 1 ≤ f N by omega) (show 0 ≤ c by omega)
      have e : c * (K + 1) = c * K + c := by grind
      have z2 := mmul (show 1 ≤ c by omega) (show 0 ≤ K by omega)
      have z3 : c * K = K * c := Int.mul_comm _ _
      omega
  · refine Or.inr (Or.inr ⟨e, pp ?_⟩)
    obtain ⟨K, k0, hK⟩ := h
    exact ⟨K, k0, fun N hN => by show N ≤ K * (c * -f N); rw [Int.mul_neg]; exact hK N hN⟩
/-- division: f g = N D but for a multiple of N -/
theorem sDiv1 {f g D : Int → Int} (hg : sPos g) (bg : sLe g) (hE : sLe (fun N => f N * g N - N * D N)) (hD : sPos D) : sPos f := by
  obtain ⟨K2, k20, hK2⟩ := hg
  obtain ⟨M, m0, hM⟩ := bg
  obtain ⟨C, c0, hC⟩ := hE
  obtain ⟨K1, k10, hK1⟩ := hD
  have z1 := Int.mul_pos k10 m0
  have z2 := Int.mul_pos k10 c0
  refine ⟨2 * (K1 * M) + (K2 + M + C + K1 + 2 * (K1 * C)), by omega, fun N hN => ?_⟩
  have d1 := hK1 N (by omega)
  have c1 : -(C * N) ≤ f N * g N - N * D N := (hC N (by omega)).1
  have g1 := (hM N (by omega)).2
  have g2 := hK2 N (by omega)
  have gp := mpos (by omega) (show 0 < K2 * g N by omega)
  have e1 : 2 * K1 * (D N - C) = 2 * (K1 * D N) - 2 * (K1 * C) := by grind
  have x1 : N ≤ 2 * K1 * (D N - C) := by omega
  have xp := mpos (by omega) (show 0 < 2 * K1 * (D N - C) by omega)
  have e2 : N * (D N - C) = N * D N - C * N := by grind
  have y1 : N * (D N - C) ≤ f N * g N := by omega
  have y2 := Int.mul_pos (show 0 < N by omega) xp
  have fp : 0 < f N := mpos (show 0 ≤ g N by omega) (by rw [Int.mul_comm]; omega)
  have y3 := mmul g1 (show 0 ≤ f N by omega)
  have e3 : f N * (M * N) = N * (M * f N) := by grind
  have y4 : D N - C ≤ M * f N := mcan (show 0 < N by omega) (by omega)
  have y5 := mmul y4 (show 0 ≤ 2 * K1 by omega)
  have e4 : (2 * (K1 * M) + (K2 + M + C + K1 + 2 * (K1 * C))) * f N = 2 * K1 * (M * f N) + (K2 + M + C + K1 + 2 * (K1 * C)) * f N := by grind
  have y6 := Int.mul_nonneg (show 0 ≤ K2 + M + C + K1 + 2 * (K1 * C) by omega) (show 0 ≤ f N by omega)
  omega
theorem sDiv0 {f g D : Int → Int} (hg : sPos g) (hE : sLe (fun N => f N * g N - N * D N)) (hD : sBd D) : sBd f := by
  obtain ⟨K2, k20, hK2⟩ := hg
  obtain ⟨C, c0, hC⟩ := hE
  obtain ⟨K1, k10, hK1⟩ := hD
  have z1 := Int.mul_pos k20 (show 0 < K1 + C by omega)
  refine ⟨K2 * (K1 + C) + K2 + C + K1, by omega, fun N hN => ?_⟩
  have d1 := hK1 N (by omega)
  have c1 : -(C * N) ≤ f N * g N - N * D N ∧ f N * g N - N * D N ≤ C * N := hC N (by omega)
  have g2 := hK2 N (by omega)
  have gp := mpos (by omega) (show 0 < K2 * g N by omega)
  have n1 := mmul d1.1 (show 0 ≤ N by omega)
  have n2 := mmul d1.2 (show 0 ≤ N by omega)
  rw [Int.mul_neg] at n1
  have e1 : N * K1 = K1 * N := Int.mul_comm _ _
  have e2 : (K1 + C) * N = K1 * N + C * N := by grind
  have y1 : f N * g N ≤ (K1 + C) * N := by omega
  have y2 : -((K1 + C) * N) ≤ f N * g N := by omega
  have key : ∀ x : Int, x * g N ≤ (K1 + C) * N → x ≤ K2 * (K1 + C) := fun x hx => by
    rcases Int.lt_or_le 0 x with h | h
    · have q1 := mmul g2 (show 0 ≤ x by omega)
      have q2 := mmul hx (show 0 ≤ K2 by omega)
      have e3 : x * (K2 * g N) = K2 * (x * g N) := by grind
      have e4 : K2 * ((K1 + C) * N) = N * (K2 * (K1 + C)) := by grind
      have e5 : x * N = N * x := Int.mul_comm _ _
      exact mcan (show 0 < N by omega) (by omega)
    · omega
  have a1 := key (f N) y1
  have a2 := key (-f N) (by rw [Int.neg_mul]; omega)
  omega
theorem sDiv {s : Int} {f g D : Int → Int} (hg : sPos g) (bg : sLe g) (hE : sLe (fun N => f N * g N - N * D N)) (hD : sSg s D) : sSg s f := by
  rcases hD with ⟨e, h⟩ | ⟨e, h⟩ | ⟨e, h⟩
  · exact Or.inl ⟨e, sDiv1 hg bg hE h⟩
  · exact Or.inr (Or.inl ⟨e, sDiv0 hg hE h⟩)
  · refine Or.inr (Or.inr ⟨e, sDiv1 (f := fun N => -f N) hg bg (sLe_eq (fun N _ => ?_) (sLe_neg hE)) h⟩)
    show -(f N * g N - N * D N) = -f N * g N - N * -D N
    grind
/-- a product: f g = N D but for a multiple of N -/
theorem sPrd1 {f g D : Int → Int} (hf : sPos f) (hg : sPos g) (hE : sLe (fun N => f N * g N - N * D N)) : sPos D := by
  obtain ⟨K1, k10, hK1⟩ := hf
  obtain ⟨K2, k20, hK2⟩ := hg
  obtain ⟨C, c0, hC⟩ := hE
  have z := Int.mul_pos k10 k20
  have hp : sPos (fun N => D N + C) := by
    refine ⟨K1 * K2 + K1 + K2 + C, by omega, fun N hN => ?_⟩
    have a := hK1 N (by omega)
    have b := hK2 N (by omega)
    have c1 : f N * g N - N * D N ≤ C * N := (hC N (by omega)).2
    have q := Int.mul_le_mul a b (show 0 ≤ N by omega) (by omega)
    have e1 : K1 * f N * (K2 * g N) = K1 * K2 * (f N * g N) := by grind
    have q2 := mmul (show f N * g N ≤ N * D N + C * N by omega) (show 0 ≤ K1 * K2 by omega)
    have e2 : K1 * K2 * (N * D N + C * N) = N * (K1 * K2 * (D N + C)) := by grind
    have q3 : N ≤ K1 * K2 * (D N + C) := mcan (show 0 < N by omega) (by omega)
    have q4 := mpos (show 0 ≤ K1 * K2 by omega) (show 0 < K1 * K2 * (D N + C) by omega)
    have q5 := Int.mul_nonneg (show 0 ≤ K1 + K2 + C by omega) (show 0 ≤ D N + C by omega)
    have e3 : (K1 * K2 + K1 + K2 + C) * (D N + C) = K1 * K2 * (D N + C) + (K1 + K2 + C) * (D N + C) := by grind
    show N ≤ (K1 * K2 + K1 + K2 + C) * (D N + C)
    omega
  obtain ⟨K, k0, hK⟩ := sPos_bd hp (⟨C, c0, fun N _ => ⟨by show -C ≤ -C; omega, by show -C ≤ C; omega⟩⟩ : sBd (fun _ => -C))
  exact ⟨K, k0, fun N hN => by have : N ≤ K * (D N + C + -C) := hK N hN; rw [show D N + C + -C = D N by omega] at this; exact this⟩
theorem sPrd0 {f g D : Int → Int} (hf : sBd f) (bg : sLe g) (hE : sLe (fun N => f N * g N - N * D N)) : sBd D := by
  obtain ⟨K1, k10, hK1⟩ := hf
  obtain ⟨M, m0, hM⟩ := bg
  obtain ⟨C, c0, hC⟩ := hE
  have z := Int.mul_pos k10 m0
  refine ⟨K1 * M + C + K1 + M, by omega, fun N hN => ?_⟩
  have a := hK1 N (by omega)
  have b := hM N (by omega)
  have c : -(C * N) ≤ f N * g N - N * D N ∧ f N * g N - N * D N ≤ C * N := hC N (by omega)
  have p := mb a b
  have e1 : K1 * (M * N) = N * (K1 * M) := by grind
  have e2 : C * N = N * C := Int.mul_comm _ _
  have e3 : N * (K1 * M + C) = N * (K1 * M) + N * C := by grind
  have e4 : N * -(K1 * M + C) = -(N * (K1 * M) + N * C) := by grind
  have y1 : D N ≤ K1 * M + C := mcan (show 0 < N by omega) (by omega)
  have y2 : -(K1 * M + C) ≤ D N := mcan (show 0 < N by omega) (by omega)
  omega
theorem sPrd {s t : Int} {f g D : Int → Int} (hf : sSg s f) (hg : sSg t g) (bf : sLe f) (bg : sLe g) (hE : sLe (fun N => f N * g N - N * D N)) : sSg (s * t) D := by
  have hE2 : sLe (fun N => g N * f N - N * D N) := sLe_eq (fun N _ => by rw [Int.mul_comm (f N)]) hE
  have hE3 : sLe (fun N => -f N * g N - N * -D N) := sLe_eq (fun N _ => by show -(f N * g N - N * D N) = _; grind) (sLe_neg hE)
  have hE4 : sLe (fun N => f N * -g N - N * -D N) := sLe_eq (fun N _ => by show -(f N * g N - N * D N) = _; grind) (sLe_neg hE)
  have hE5 : sLe (fun N => -f N * -g N - N * D N) := sLe_eq (fun N _ => by show f N * g N - N * D N = _; grind) hE
  rcases hf with ⟨e, h⟩ | ⟨e, h⟩ | ⟨e, h⟩ <;> subst e
  · rcases hg with ⟨e, h'⟩ | ⟨e, h'⟩ | ⟨e, h'⟩ <;> subst e
    · exact Or.inl ⟨rfl, sPrd1 h h' hE⟩
    · exact Or.inr (Or.inl ⟨rfl, sPrd0 h' bf hE2⟩)
    · exact Or.inr (Or.inr ⟨rfl, sPrd1 h h' hE4⟩)
  · exact Or.inr (Or.inl ⟨by rw [Int.zero_mul], sPrd0 h bg hE⟩)
  · rcases hg with ⟨e, h'⟩ | ⟨e, h'⟩ | ⟨e, h'⟩ <;> subst e
    · exact Or.inr (Or.inr ⟨rfl, sPrd1 h h' hE3⟩)
    · exact Or.inr (Or.inl ⟨rfl, sPrd0 h' bf hE2⟩)
    · exact Or.inl ⟨rfl, sPrd1 h h' hE5⟩
/-- two signs and that of the difference of squares -/
def sCmb (l r s : Int) : Int := if l = 0 ∨ l = r then r else if r = 0 then l else l * s
theorem sCmb_ok {l r s : Int} {L R D : Int → Int} (hl : sSg l L) (hr : sSg r R) (bL : sLe L) (bR : sLe R) (hE : sLe (fun N => L N * L N - R N * R N - N * D N)) (hD : sSg s D) : sSg (sCmb l r s) (fun N => L N + R N) := by
  unfold sCmb
  by_cases h1 : l = 0 ∨ l = r
  · rw [if_pos h1]
    refine sSg_eq (fun N _ => Int.add_comm _ _) (sSg_add2 hr hl ?_)
    omega
  · rw [if_neg h1]
    by_cases h2 : r = 0
    · rw [if_pos h2]
      exact sSg_add2 hl hr (Or.inl h2)
    · rw [if_neg h2]
      have l3 := sSg_3 hl
      have r3 := sSg_3 hr
      have hc : (l = 1 ∧ r = -1) ∨ (l = -1 ∧ r = 1) := by omega
      rcases hc with ⟨rfl, rfl⟩ | ⟨rfl, rfl⟩
      · rw [Int.one_mul]
        refine sDiv (g := fun N => L N + -R N) (sPos_add (sSg_p hl) (sSg_n hr)) (sLe_add bL (sLe_neg bR)) (sLe_eq (fun N _ => ?_) hE) hD
        show L N * L N - R N * R N - N * D N = (L N + R N) * (L N + -R N) - N * D N
        grind
      · have := sDiv (s := s) (f := fun N => -(L N + R N)) (g := fun N => R N + -L N) (D := D) (sPos_add (sSg_p hr) (sSg_n hl)) (sLe_add bR (sLe_neg bL)) (sLe_eq (fun N _ => ?_) hE) hD
        · have h9 := sSg_neg this
          rw [show -1 * s = -s by omega]
          exact sSg_eq (fun N _ => by show - -(L N + R N) = L N + R N; omega) h9
        · show L N * L N - R N * R N - N * D N = -(L N + R N) * (R N + -L N) - N * D N
          grind
