/-! points as they come: how near they are, samples between them -/
def okQ (p : Pt) : Prop := okP p ∧ ((p.2.1 = 0 ∧ p.2.2.1 = 0) ∨ ((p.2.1 = 1 ∨ p.2.1 = -1) ∧ (-18 ≤ p.1 ∧ p.1 ≤ 18) ∧ 1 ≤ p.2.2.1 ∧ ((p.2.2.2 = 2 ∧ p.2.2.1 ≤ 400) ∨ (p.2.2.2 = 4 ∧ p.2.2.1 ≤ 484))))
theorem sPos_eq {f g : Int → Int} (h : ∀ N, 0 < N → f N = g N) (hf : sPos f) : sPos g := by
  obtain ⟨K, k0, hK⟩ := hf
  exact ⟨K, k0, fun N hN => by rw [← h N (by omega)]; exact hK N hN⟩
theorem sPos_sc {f : Int → Int} {c : Int} (hc : 0 < c) (hf : sPos f) : sPos (fun N => c * f N) := sSg_p (sSg_mul hc (Or.inl ⟨rfl, hf⟩))
theorem sPos_un {f : Int → Int} {c : Int} (hc : 0 < c) (hf : sPos (fun N => c * f N)) : sPos f := sSg_p (sSg_div hc (Or.inl ⟨rfl, hf⟩))
theorem sPos_id : sPos (fun N => N) := sPos_w (fun _ _ => Int.le_refl _)
theorem gap {a b : Pt} (ha : okQ a) (hb : okQ b) (h : ordP a b = -1) : sPos (fun N => 4194304 * (a.2.2.2 * xq b N - b.2.2.2 * xq a N) - a.2.2.2 * b.2.2.2 * N) := by
  obtain ⟨oa, ca⟩ := ha
  obtain ⟨ob, cb⟩ := hb
  have o := ord_ok (pk_ok oa) (pk_ok ob)
  rw [h] at o
  have x : sPos (fun N => a.2.2.2 * xq b N - b.2.2.2 * xq a N) := sPos_eq (fun N _ => by show -(b.2.2.2 * xq a N - a.2.2.2 * xq b N) = _; omega) (sSg_n o)
  obtain ⟨⟨a1, a2⟩, a3, ⟨a4, a5⟩, a6, a7⟩ := oa
  obtain ⟨⟨b1, b2⟩, b3, ⟨b4, b5⟩, b6, b7⟩ := ob
  unfold xq at x ⊢
  obtain ⟨aw, as, ad, aq⟩ := a
  obtain ⟨bw, bs, bd, bq⟩ := b
  simp only at *
  have m1 := mb (⟨by omega, a7⟩ : -18 ≤ aq ∧ aq ≤ 18) (⟨by omega, b7⟩ : -18 ≤ bq ∧ bq ≤ 18)
  have m2 := Int.mul_pos (show 0 < aq by omega) (show 0 < bq by omega)
  rcases ca with ⟨ca1, ca2⟩ | ⟨ca1, ca2, ca3, ca4⟩
  · subst ca1 ca2
    rcases cb with ⟨cb1, cb2⟩ | ⟨cb1, cb2, cb3, cb4⟩
    · subst cb1 cb2
      refine sPos_eq (fun N _ => ?_) (gap0 (u := aq * bw - bq * aw) (c := aq * bq) (by omega) (sPos_eq (fun N _ => ?_) x))
      · grind
      · grind
    · have s1 : bs * bs = 1 := by rcases cb1 with e | e <;> rw [e] <;> rfl
      have m3 := mb (⟨by omega, a7⟩ : -18 ≤ aq ∧ aq ≤ 18) cb2
      have m4 := mb (⟨by omega, by omega⟩ : -4 ≤ bq ∧ bq ≤ 4) (⟨a1, a2⟩ : -40 ≤ aw ∧ aw ≤ 40)
      have m5 := mb (⟨by omega, a7⟩ : -18 ≤ aq ∧ aq ≤ 18) (⟨by omega, a7⟩ : -18 ≤ aq ∧ aq ≤ 18)
      have m6 := mb m5 (⟨by omega, by omega⟩ : -484 ≤ bd ∧ bd ≤ 484)
      have m7 := mb (⟨by omega, a7⟩ : -18 ≤ aq ∧ aq ≤ 18) (⟨by omega, by omega⟩ : -4 ≤ bq ∧ bq ≤ 4)
      refine sPos_eq (fun N _ => ?_) (gap1 (u := aq * bw - bq * aw) (v := aq * bs) (d := bd) (c := aq * bq) (by omega) ?_ cb3 ?_ (by omega) (sPos_eq (fun N _ => ?_) x))
      · rw [rsq_0]; generalize rsq bd N = r; grind
      · rcases cb1 with e | e <;> rw [e] <;> omega
      · have e : aq * bs * (aq * bs) * bd = bs * bs * (aq * aq * bd) := by grind
        rw [e, s1]
        omega
      · rw [rsq_0]; generalize rsq bd N = r; grind
  · have t1 : as * as = 1 := by rcases ca1 with e | e <;> rw [e] <;> rfl
    rcases cb with ⟨cb1, cb2⟩ | ⟨cb1, cb2, cb3, cb4⟩
    · subst cb1 cb2
      have m3 := mb (⟨by omega, b7⟩ : -18 ≤ bq ∧ bq ≤ 18) ca2
      have m4 := mb (⟨by omega, by omega⟩ : -4 ≤ aq ∧ aq ≤ 4) (⟨b1, b2⟩ : -40 ≤ bw ∧ bw ≤ 40)
      have m5 := mb (⟨by omega, b7⟩ : -18 ≤ bq ∧ bq ≤ 18) (⟨by omega, b7⟩ : -18 ≤ bq ∧ bq ≤ 18)
      have m6 := mb m5 (⟨by omega, by omega⟩ : -484 ≤ ad ∧ ad ≤ 484)
      have m7 := mb (⟨by omega, by omega⟩ : -4 ≤ aq ∧ aq ≤ 4) (⟨by omega, b7⟩ : -18 ≤ bq ∧ bq ≤ 18)
      refine sPos_eq (fun N _ => ?_) (gap1 (u := aq * bw - bq * aw) (v := -(bq * as)) (d := ad) (c := aq * bq) (by omega) ?_ ca3 ?_ (by omega) (sPos_eq (fun N _ => ?_) x))
      · rw [rsq_0]; generalize rsq ad N = r; grind
      · rcases ca1 with e | e <;> rw [e] <;> omega
      · have e : -(bq * as) * -(bq * as) * ad = as * as * (bq * bq * ad) := by grind
        rw [e, t1]
        omega
      · rw [rsq_0]; generalize rsq ad N = r; grind
    · have s1 : bs * bs = 1 := by rcases cb1 with e | e <;> rw [e] <;> rfl
      have t2 : -as * -as = 1 := by rw [Int.neg_mul_neg]; exact t1
      rcases ca4 with ⟨qa, da⟩ | ⟨qa, da⟩ <;> rcases cb4 with ⟨qb, db⟩ | ⟨qb, db⟩ <;> subst qa qb
      · have g := gap2 (u := bw - aw) (v := -as) (d := ad) (w := bs) (e := bd) (by omega) ca3 (by rw [t2]; omega) s1 (by omega) (sPos_un (c := 2) (by decide) (sPos_eq (fun N _ => by generalize rsq ad N = r; generalize rsq bd N = r2; grind) x))
        refine sPos_eq (fun N _ => ?_) (sPos_sc (c := 2) (by decide) (sPos_add g (sPos_sc (c := 2) (by decide) sPos_id)))
        generalize rsq ad N = r
        generalize rsq bd N = r2
        grind
      · have g := gap2 (u := bw - 2 * aw) (v := -(2 * as)) (d := ad) (w := bs) (e := bd) (by omega) ca3 (by have e : -(2 * as) * -(2 * as) * ad = 4 * (as * as * ad) := by grind
                                                                                                            rw [e, t1]; omega) s1 (by omega) (sPos_un (c := 2) (by decide) (sPos_eq (fun N _ => by generalize rsq ad N = r; generalize rsq bd N = r2; grind) x))
        refine sPos_eq (fun N _ => ?_) (sPos_sc (c := 2) (by decide) g)
        generalize rsq ad N = r
        generalize rsq bd N = r2
        grind
      · have g := gap2 (u := 2 * bw - aw) (v := 2 * bs) (d := bd) (w := -as) (e := ad) (by omega) cb3 (by have e : 2 * bs * (2 * bs) * bd = 4 * (bs * bs * bd) := by grind
                                                                                                          rw [e, s1]; omega) t2 (by omega) (sPos_un (c := 2) (by decide) (sPos_eq (fun N _ => by generalize rsq ad N = r; generalize rsq bd N = r2; grind) x))
        refine sPos_eq (fun N _ => ?_) (sPos_sc (c := 2) (by decide) g)
        generalize rsq ad N = r
        generalize rsq bd N = r2
        grind
      · have g := gap2 (u := bw - aw) (v := -as) (d := ad) (w := bs) (e := bd) (by omega) ca3 (by rw [t2]; omega) s1 (by omega) (sPos_un (c := 4) (by decide) (sPos_eq (fun N _ => by generalize rsq ad N = r; generalize rsq bd N = r2; grind) x))
        refine sPos_eq (fun N _ => ?_) (sPos_sc (c := 4) (by decide) g)
        generalize rsq ad N = r
        generalize rsq bd N = r2
        grind
/-- the next fraction by 4194304 above a point is below every greater one -/
theorem smp_gap {a b : Pt} {p : Int} (ha : okQ a) (hb : okQ b) (h : ordP a b = -1) (hp : 0 ≤ ordP a (fr p 4194304)) : ordP b (fr (p + 1) 4194304) = 1 := by
  have ka := pk_ok ha.1
  have kb := pk_ok hb.1
  have g := gap ha hb h
  have o := sSg_mul kb.2 (ord_ok ka (pk_fr (p := p) (q := 4194304) (by decide)))
  have o3 := ord_3 a (fr p 4194304)
  refine sSg_uq (ord_ok kb (pk_fr (p := p + 1) (q := 4194304) (by decide))) (sSg_div ka.2 (sSg_eq (fun N _ => ?_) (sSg_add2 (Or.inl ⟨rfl, g⟩ : sSg 1 _) o (by omega))))
  show 4194304 * (a.2.2.2 * xq b N - b.2.2.2 * xq a N) - a.2.2.2 * b.2.2.2 * N + b.2.2.2 * (4194304 * xq a N - a.2.2.2 * xq (fr p 4194304) N) = a.2.2.2 * (4194304 * xq b N - b.2.2.2 * xq (fr (p + 1) 4194304) N)
  rw [xq_fr, xq_fr]
  grind
