/-! digest: points -/
noncomputable def pnX (mem : zMem) (pt : Int → Pt) (p w : Int) : Int := if w = 0 then 100000 + thP (pt p) else if w = 1 then zb ((pt p).2.1 = 0) else if w = 2 then pmA mem 31 p else if w = 3 then upA mem 31 p else -102
theorem thP_r {p : Pt} (h : okP p) : -200000 ≤ thP p ∧ thP p ≤ 200000 := by
  obtain ⟨a, b, c, d⟩ := h
  have hr := rtD_r (1000000 * p.2.2.1)
  unfold thP
  have key : ∀ x : Int, -150000 ≤ x → x ≤ 150000 → -200000 ≤ x / p.2.2.2 ∧ x / p.2.2.2 ≤ 200000 := fun x h1 h2 => by
    constructor
    · refine Int.le_ediv_of_mul_le (by omega) ?_
      omega
    · have h3 : x / p.2.2.2 ≤ 150000 / p.2.2.2 := Int.ediv_le_ediv (by omega) h2
      have h4 : 150000 / p.2.2.2 ≤ 150000 := Int.ediv_le_self _ (by decide)
      omega
  split
  · exact key _ (by omega) (by omega)
  · split
    · exact key _ (by omega) (by omega)
    · exact key _ (by omega) (by omega)
