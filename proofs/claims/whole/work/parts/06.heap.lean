/-! words by place -/
theorem zin {w : Cond} (i : Nat) (h : lw_tbl[i]? = some w) (g : goodWord w = true) : w ∈ zwsG := List.mem_filter.mpr ⟨List.mem_of_getElem? h, g⟩
theorem zin_r (ws : List Cond) (ps : List Nat) (hp : ws = ps.filterMap (fun i => lw_tbl[i]?)) (hg : ws.all goodWord = true) : ∀ w ∈ ws, w ∈ zwsG := by
  intro w hw
  have h1 := List.all_eq_true.mp hg w hw
  rw [hp] at hw
  obtain ⟨i, -, hi⟩ := List.mem_filterMap.mp hw
  exact zin i hi h1
theorem zgood {ws : List Cond} (h : ∀ w ∈ ws, w ∈ zwsG) : GoodIn zwsG ws := fun w hw => ⟨h w hw, good_of_word (List.mem_filter.mp (h w hw)).2⟩
def zcl (c : Nat) : vw_C := vwCl.getD c (RX0, TX0, 4)
set_option maxRecDepth 20000 in
theorem zlay0 : ∀ w ∈ u_ws RX0 TX0 4, w ∈ zwsG := zin_r _ [144, 146, 148, 150] (by decide +kernel) (by decide +kernel)
set_option maxRecDepth 20000 in
theorem zlay1 : ∀ w ∈ u_ws RX1 TX1 1, w ∈ zwsG := zin_r _ [288] (by decide +kernel) (by decide +kernel)
set_option maxRecDepth 20000 in
theorem zlay2 : ∀ w ∈ u_ws RX3 TX3 2, w ∈ zwsG := zin_r _ [263, 265] (by decide +kernel) (by decide +kernel)
set_option maxRecDepth 20000 in
theorem zlay3 : ∀ w ∈ u_ws RX4 TX4 2, w ∈ zwsG := zin_r _ [276, 278] (by decide +kernel) (by decide +kernel)
set_option maxRecDepth 20000 in
theorem zlay4 : ∀ w ∈ u_ws RX5 TX5 2, w ∈ zwsG := zin_r _ [111, 113] (by decide +kernel) (by decide +kernel)
set_option maxRecDepth 20000 in
theorem zlay5 : ∀ w ∈ u_ws RX6 TX6 3, w ∈ zwsG := zin_r _ [301, 303, 305] (by decide +kernel) (by decide +kernel)
set_option maxRecDepth 20000 in
theorem zlay6 : ∀ w ∈ u_ws RX7 TX7 4, w ∈ zwsG := zin_r _ [204, 206, 208, 210] (by decide +kernel) (by decide +kernel)
set_option maxRecDepth 20000 in
theorem zlay7 : ∀ w ∈ u_ws RX8 TX8 2, w ∈ zwsG := zin_r _ [159, 161] (by decide +kernel) (by decide +kernel)
set_option maxRecDepth 20000 in
theorem zlay8 : ∀ w ∈ u_ws RX9 TX9 5, w ∈ zwsG := zin_r _ [176, 178, 180, 182, 184] (by decide +kernel) (by decide +kernel)
set_option maxRecDepth 20000 in
theorem zlay9 : ∀ w ∈ u_ws RX10 TX10 11, w ∈ zwsG := zin_r _ [232, 234, 236, 238, 240, 242, 244, 246, 248, 250, 252] (by decide +kernel) (by decide +kernel)
set_option maxRecDepth 20000 in
theorem zlay10 : ∀ w ∈ u_ws RX11 TX11 16, w ∈ zwsG := zin_r _ [324, 326, 328, 330, 332, 334, 336, 338, 340, 342, 344, 346, 348, 350, 352, 354] (by decide +kernel) (by decide +kernel)
set_option maxRecDepth 20000 in
theorem zlay11 : ∀ w ∈ u_ws RX12 TX12 34, w ∈ zwsG := zin_r _ [864, 866, 868, 870, 872, 874, 876, 878, 880, 882, 884, 886, 888, 890, 892, 894, 896, 898, 900, 902, 904, 906, 908, 910, 912, 914, 916, 918, 920, 922, 924, 926, 928, 930] (by decide +kernel) (by decide +kernel)
theorem zcl_ok : ∀ c, c < 12 → vwCl[c]? = some (zcl c) ∧ (∀ w ∈ u_ws (zcl c).1 (zcl c).2.1 (zcl c).2.2, w ∈ zwsG) ∧ (∀ k, k < (zcl c).2.2 → parseFieldDescriptor ((zcl c).2.1 k).2.2.1 = some (zty c k)) ∧ (∀ a, a < (zcl c).2.2 → ∀ b, b < (zcl c).2.2 → a ≠ b → ((zcl c).2.1 a).2.1 ≠ ((zcl c).2.1 b).2.1) ∧ zN c = (zcl c).2.2
  | 0, _ => ⟨rfl, zlay0, tyX0_ok, nmX0, rfl⟩
  | 1, _ => ⟨rfl, zlay1, tyX1_ok, nmX1, rfl⟩
  | 2, _ => ⟨rfl, zlay2, tyX3_ok, nmX3, rfl⟩
  | 3, _ => ⟨rfl, zlay3, tyX4_ok, nmX4, rfl⟩
  | 4, _ => ⟨rfl, zlay4, tyX5_ok, nmX5, rfl⟩
  | 5, _ => ⟨rfl, zlay5, tyX6_ok, nmX6, rfl⟩
  | 6, _ => ⟨rfl, zlay6, tyX7_ok, nmX7, rfl⟩
  | 7, _ => ⟨rfl, zlay7, tyX8_ok, nmX8, rfl⟩
  | 8, _ => ⟨rfl, zlay8, tyX9_ok, nmX9, rfl⟩
  | 9, _ => ⟨rfl, zlay9, tyX10_ok, nmX10, rfl⟩
  | 10, _ => ⟨rfl, zlay10, tyX11_ok, nmX11, rfl⟩
  | 11, _ => ⟨rfl, zlay11, tyX12_ok, nmX12, rfl⟩
  | n + 12, h => absurd h (by omega)
theorem zE_cls (X : zCT) (mem : zMem) (i c m : Nat) (h : c < 12) : zE X mem i (c, m) = .inr (c, (List.range (zN c)).map (fun k => zcV X (ztag (zty c k), mem i k))) := by
  unfold zE
  match c, h with
  | 0, _ => rfl
  | 1, _ => rfl
  | 2, _ => rfl
  | 3, _ => rfl
  | 4, _ => rfl
  | 5, _ => rfl
  | 6, _ => rfl
  | 7, _ => rfl
  | 8, _ => rfl
  | 9, _ => rfl
  | 10, _ => rfl
  | 11, _ => rfl
/-- a field's entry of the pool: class, slot, tag; the slot as an Int -/
def zFl (own : String) (i c k t : Nat) (kI : Int) : Prop := Cond.fieldLink own i ((zcl c).2.1 k).1 ((zcl c).2.1 k).2.1 ((zcl c).2.1 k).2.2.1 ∈ zwsG ∧ c < 12 ∧ k < zN c ∧ ztag (zty c k) = t ∧ (k : Int) = kI
theorem zat {X : zCT} {sh : zSh} {mem : zMem} {a : Int} {q : Nat × Nat} (h : zkd sh a = q) (hq : q.1 < 99) : ∃ i : Nat, a = (i : Int) ∧ sh[i]? = some q ∧ (zW X sh mem)[i]? = some (X.2.1.size + i, zE X mem i q) ∧ zcV X (2, a) = .ref (X.2.1.size + i) := by
  obtain ⟨i, h1, h2⟩ := zkd_at h hq
  refine ⟨i, h1, h2, by rw [zW_get, h2]; rfl, by rw [h1]; exact zcV_ref X i⟩
theorem zH_set {X : zCT} {sh : zSh} {mem mem' : zMem} {H H1 : Heap} {i : Nat} {q : Nat × Nat} {e : va_E} (hH : zH X sh mem H) (hq : sh[i]? = some q) (he : zE X mem' i q = e) (ho : ∀ j : Nat, j ≠ i → mem' j = mem j) (h1 : va_at (X.2.2.1, X.2.2.2.1) vwCl (X.2.1.size + i, e) H1) (z : H1.size = H.size) (oq : ∀ x : Nat, x ≠ X.2.1.size + i → H1[x]? = H[x]?) : zH X sh mem' H1 := by
  obtain ⟨hP, hs, hb⟩ := hH
  refine ⟨?_, by rw [z, hs], fun x hx => by rw [oq x (by omega)]; exact hb x hx⟩
  rw [← zW_set X sh mem mem' i q e hq he ho]
  exact hP.set (zW_D X sh mem) (by rw [zW_get, hq]; rfl) h1 oq
theorem zlo_put {X : zCT} {locs : List Loc} {i k : Nat} (h : zlo X locs) : zlo X (locs ++ [⟨X.2.1.size + i, k⟩]) := by
  intro q hq
  rcases List.mem_append.mp hq with h1 | h1
  · exact h q h1
  · rw [List.mem_singleton.mp h1]
    exact Nat.le_add_right _ _
theorem zup_o (mem : zMem) (i : Nat) (k v : Int) : ∀ j : Nat, j ≠ i → zup mem (i : Int) k v j = mem j := by
  intro j hj
  funext k'
  unfold zup
  rw [if_neg (by omega)]
section zHEAP
variable {P : zCT → Prop} {mt : zMT} {sh : zSh} {u : Nat × Nat} {pc n : Nat} {L L' : List (Option zAV)} {st : List zAV} {mem : zMem} {Q : zQT} {a b : Int}
theorem zV_getf {i c k t m9 : Nat} {kI : Int} (hd : decode mt.2.1 pc = .ok (.getfield i, 3) ∧ pc + 3 = n) (hf : zFl mt.1.cls i c k t kI) (hk : zkd sh a = (c, m9)) (kk : zV P mt sh u n L ((t, mem a kI) :: st) mem Q) : zV P mt sh u pc L ((2, a) :: st) mem Q := by
  intro X p l ev s m args below meth cq Z hP C R H locs ls hH hl hL
  rw [← hd.2] at kk
  obtain ⟨hlink, hc, hkN, ht, hkI⟩ := hf
  obtain ⟨q1, q2, q3, q4, q5⟩ := zcl_ok c hc
  obtain ⟨i', rfl, h2, h3, h4⟩ := zat (X := X) (mem := mem) hk (by show c < 99; omega)
  have h5 := kk X p l ev s m args below meth cq Z hP C R H locs ls hH hl hL
  rw [List.map_cons] at h5 ⊢
  rw [h4]
  subst ht; subst hkI
  refine va_get (D := (X.2.2.1, X.2.2.2.1)) (cl := vwCl) (tys := ztys X) (ws := zW X sh mem) (C := (zcl c).1) (T := (zcl c).2.1) (N := (zcl c).2.2) (ci := c) C.1 C.2.1 C.2.2.2.2.2.2.1 q2 C.2.2.2.2.2.1 C.2.2.2.2.2.2.2.1.1 hH.1 i' (by rw [h3, zE_cls X mem i' c m9 hc]) q1 k (by rw [← q5]; exact hkN) (C.2.2.2.2.2.2.1 _ hlink) (fun _ h9 => h9) (v := zcV X (ztag (zty c k), mem i' k)) ?_ hd.1 h5
  rw [List.getElem?_map, List.getElem?_range hkN]
  rfl
/-- storing into a field that isn't final -/
theorem zV_put0 {i c k t m9 : Nat} {kI : Int} (hd : decode mt.2.1 pc = .ok (.putfield i, 3) ∧ pc + 3 = n) (hf : zFl mt.1.cls i c k t kI) (hk : zkd sh a = (c, m9)) (hfin : ((zcl c).2.1 k).2.2.2 = false ∨ (((zcl c).2.1 k).2.2.2 = true ∧ mt.1.name = "<init>" ∧ ((zcl c).2.1 k).1 = mt.1.cls)) (hnf : ∀ X : zCT, narrow (zty c k) (zcV X (t, b)) = zcV X (t, b) ∧ fits (zty c k) (zcV X (t, b)) = true) (kk : zV P mt sh u n L st (zup mem a kI b) Q) : zV P mt sh u pc L ((t, b) :: (2, a) :: st) mem Q := by
  intro X p l ev s m args below meth cq Z hP C R H locs ls hH hl hL
  rw [← hd.2] at kk
  obtain ⟨hlink, hc, hkN, ht, hkI⟩ := hf
  obtain ⟨w1, w2, w3, w4, w5⟩ := zcl_ok c hc
  obtain ⟨i', rfl, h2, h3, h4⟩ := zat (X := X) (mem := mem) hk (by show c < 99; omega)
  rw [List.map_cons, List.map_cons, h4]
  have hK := C.2.2.2.2.2.2.2.1.1
  have hts := C.2.2.2.2.2.2.1
  have hown := C.2.2.2.2.2.1
  have hap := va_apart (own := mt.1.cls) hts w2 (zty c) w3 w4 hK w1
  have hPP := hH.1
  rw [zE_cls X mem i' c m9 hc] at h3
  obtain ⟨r, g1, cell, q1, q2, q3, q4⟩ := hPP i' _ h3
  have hr : r = zcl c := Option.some.inj (g1.symm.trans w1)
  subst hr
  obtain ⟨hS, hfc, kC, hkC, hkind⟩ := hK.1 c _ w1
  have hkN' : k < (zcl c).2.2 := by rw [← w5]; exact hkN
  obtain ⟨cf, kf, fi, f, hi, hsl⟩ := hS k hkN'
  have hst := (u_facts hfc hkC (u_lays hts w2 hkN') hi).1
  have fin : ∀ H' : Heap, H'[X.2.1.size + i']? = some (cell.setSlot f.slot (zcV X (t, b))) → H'.size = H.size → (∀ q, q ≠ X.2.1.size + i' → H'[q]? = H[q]?) → W p l ev (zrm mt) s m args below meth cq H' (locs ++ [⟨X.2.1.size + i', f.slot⟩]) u.1 u.2 Z (F0 m (pc + 3) ls (st.map (zcV X))) := by
    intro H' e1 e2 e3
    rw [hsl] at e1
    refine kk X p l ev s m args below meth cq Z hP C R H' _ ls (zH_set (e := .inr (c, ((List.range (zN c)).map (fun k => zcV X (ztag (zty c k), mem i' k))).set k (zcV X (t, b)))) hH h2 ?_ (zup_o mem i' kI b) ?_ e2 e3) (zlo_put hl) hL
    · rw [zE_cls X _ i' c m9 hc]
      congr 2
      apply List.ext_getElem?
      intro j
      by_cases hj : j = k
      · subst hj
        rw [List.getElem?_set_self (by simp; exact hkN), List.getElem?_map, List.getElem?_range hkN]
        simp [zup, hkI, ht]
      · rw [List.getElem?_set_ne (Ne.symm hj), List.getElem?_map, List.getElem?_map]
        have hx : ∀ x : Nat, x ≠ k → zup mem (i' : Int) kI b i' x = mem i' x := by
          intro x hx
          unfold zup
          rw [if_neg (by omega)]
        cases hr : (List.range (zN c))[j]? with
        | none => rfl
        | some x =>
          have hxj : x = j := by
            have := List.getElem?_eq_some_iff.mp hr
            obtain ⟨_, h⟩ := this
            simpa using h.symm
          subst hxj
          simp [hx x hj]
    · exact ⟨_, w1, t_OB.to (V := updV (vp_V ((List.range (zN c)).map (fun k => zcV X (ztag (zty c k), mem i' k)))) k (zcV X (t, b))) ⟨_, e1, q2, q3, t_set q4 hap hkN' _⟩ (fun j _ => vp_updV_set (by simp; exact hkN) _ j)⟩
  have hlay := hts _ (w2 _ (u_in_lay hkN'))
  unfold u_lay at hlay
  rcases hfin with hfin | ⟨hfin, hin, hdecl⟩
  · rw [if_neg (by rw [hfin]; decide)] at hlay
    have h6 := u_store hfc hkC hkind hlay hi (w3 k hkN') (hnf X).1 (hnf X).2
    exact W.putK C.1 C.2.1 (f := f) ⟨hown, hts _ hlink, ⟨_, _, _, hi⟩, hst⟩ (by rw [q2]; exact h6) q1 q3 (by rw [hsl]; exact k2_hasslot (q4 k hkN')) rfl rfl hd.1 fin
  · rw [if_pos hfin] at hlay
    have hcf : m.cls = cf := by
      obtain ⟨_, _, c', _, _, _, -, -, hf', -, -, -, hown2, -⟩ := Cond.laysFinal_spec hlay
      have e1 : c' = cf := by have := hi.symm.trans hf'; simp at this; exact this.1.symm
      rw [hdecl] at hown2
      rw [← e1]; exact Option.some.inj (hown.symm.trans hown2)
    have h6 := u_fits hfc hkC hkind (Or.inr hlay) hi (w3 k hkN') (hnf X).1 (hnf X).2
    exact W.putFinK C.1 C.2.1 hown (hts _ hlink) hi hst hcf ((C.2.2.2.2.2.2.2.2 hin).trans hin) (by rw [q2]; exact h6) q1 q3 (by rw [hsl]; exact k2_hasslot (q4 k hkN')) rfl rfl hd.1 fin
theorem zV_puti {i c k m9 : Nat} {kI : Int} (hd : decode mt.2.1 pc = .ok (.putfield i, 3) ∧ pc + 3 = n) (hf : zFl mt.1.cls i c k 0 kI) (hk : zkd sh a = (c, m9)) (hfin : ((zcl c).2.1 k).2.2.2 = false ∧ zty c k = .int) (kk : zV P mt sh u n L st (zup mem a kI b) Q) : zV P mt sh u pc L ((0, b) :: (2, a) :: st) mem Q :=
  zV_put0 hd hf hk (Or.inl hfin.1) (fun X => by rw [hfin.2]; exact ⟨rfl, rfl⟩) kk
theorem zV_putl {i c k m9 : Nat} {kI : Int} (hd : decode mt.2.1 pc = .ok (.putfield i, 3) ∧ pc + 3 = n) (hf : zFl mt.1.cls i c k 1 kI) (hk : zkd sh a = (c, m9)) (hfin : ((zcl c).2.1 k).2.2.2 = false ∧ zty c k = .long) (kk : zV P mt sh u n L st (zup mem a kI b) Q) : zV P mt sh u pc L ((1, b) :: (2, a) :: st) mem Q :=
  zV_put0 hd hf hk (Or.inl hfin.1) (fun X => by rw [hfin.2]; exact ⟨rfl, rfl⟩) kk
theorem zV_putz {i c k m9 : Nat} {kI : Int} (hd : decode mt.2.1 pc = .ok (.putfield i, 3) ∧ pc + 3 = n) (hf : zFl mt.1.cls i c k 0 kI) (hk : zkd sh a = (c, m9)) (hfin : ((zcl c).2.1 k).2.2.2 = false ∧ zty c k = .boolean) (hb : b = 0 ∨ b = 1) (kk : zV P mt sh u n L st (zup mem a kI b) Q) : zV P mt sh u pc L ((0, b) :: (2, a) :: st) mem Q :=
  zV_put0 hd hf hk (Or.inl hfin.1) (fun X => by rw [hfin.2]; rcases hb with rfl | rfl <;> exact ⟨rfl, rfl⟩) kk
theorem zV_putF {i c k m9 : Nat} {kI : Int} (hd : decode mt.2.1 pc = .ok (.putfield i, 3) ∧ pc + 3 = n) (hf : zFl mt.1.cls i c k 2 kI) (hk : zkd sh a = (c, m9)) (hfin : ((zcl c).2.1 k).2.2.2 = true ∧ mt.1.name = "<init>" ∧ ((zcl c).2.1 k).1 = mt.1.cls) (kk : zV P mt sh u n L st (zup mem a kI b) Q) : zV P mt sh u pc L ((2, b) :: (2, a) :: st) mem Q := by
  refine zV_put0 hd hf hk (Or.inr hfin) (fun X => ?_) kk
  have ht := hf.2.2.2.1
  show narrow _ (va_rf (zro X b)) = va_rf (zro X b) ∧ fits _ (va_rf (zro X b)) = true
  cases hty : zty c k <;> rw [hty] at ht <;> first | (exact absurd ht (by decide)) | (cases zro X b <;> exact ⟨rfl, rfl⟩)
theorem zV_iald {m9 : Nat} (hd : decode mt.2.1 pc = .ok (.iaload, 1) ∧ pc + 1 = n) (hk : zkd sh a = (12, m9)) (hm : Nat.ble m9 100000 = true) (hb : 0 ≤ b ∧ b < m9) (kk : zV P mt sh u n L ((0, mem a b) :: st) mem Q) : zV P mt sh u pc L ((0, b) :: (2, a) :: st) mem Q := by
  intro X p l ev s m args below meth cq Z hP C R H locs ls hH hl hL
  rw [← hd.2] at kk
  obtain ⟨i', rfl, h2, h3, h4⟩ := zat (X := X) (mem := mem) hk (by show 12 < 99; omega)
  obtain ⟨g1, g2⟩ := i32_idx hb.1 hb.2 hm
  have h5 := kk X p l ev s m args below meth cq Z hP C R H locs ls hH hl hL
  rw [List.map_cons] at h5
  rw [List.map_cons, List.map_cons, h4]
  refine va_iald (D := (X.2.2.1, X.2.2.2.1)) (cl := vwCl) C.1 C.2.1 C.2.2.2.2.2.2.2.1.1 hH.1 i' 0 (h3.trans rfl) rfl g1 hd.1 ?_
  dsimp only
  rw [g2]
  exact h5
theorem zV_lald {m9 : Nat} (hd : decode mt.2.1 pc = .ok (.laload, 1) ∧ pc + 1 = n) (hk : zkd sh a = (13, m9)) (hm : Nat.ble m9 100000 = true) (hb : 0 ≤ b ∧ b < m9) (kk : zV P mt sh u n L ((1, mem a b) :: st) mem Q) : zV P mt sh u pc L ((0, b) :: (2, a) :: st) mem Q := by
  intro X p l ev s m args below meth cq Z hP C R H locs ls hH hl hL
  rw [← hd.2] at kk
  obtain ⟨i', rfl, h2, h3, h4⟩ := zat (X := X) (mem := mem) hk (by show 13 < 99; omega)
  obtain ⟨g1, g2⟩ := i32_idx hb.1 hb.2 hm
  have h5 := kk X p l ev s m args below meth cq Z hP C R H locs ls hH hl hL
  rw [List.map_cons] at h5
  rw [List.map_cons, List.map_cons, h4]
  refine va_lald (D := (X.2.2.1, X.2.2.2.1)) (cl := vwCl) C.1 C.2.1 C.2.2.2.2.2.2.2.1.1 hH.1 i' 1 (h3.trans rfl) rfl g1 hd.1 ?_
  dsimp only
  rw [g2]
  exact h5
theorem zV_zald {m9 : Nat} (hd : decode mt.2.1 pc = .ok (.baload, 1) ∧ pc + 1 = n) (hk : zkd sh a = (14, m9)) (hm : Nat.ble m9 100000 = true) (hb : 0 ≤ b ∧ b < m9) (kk : zV P mt sh u n L ((0, mem a b) :: st) mem Q) : zV P mt sh u pc L ((0, b) :: (2, a) :: st) mem Q := by
  intro X p l ev s m args below meth cq Z hP C R H locs ls hH hl hL
  rw [← hd.2] at kk
  obtain ⟨i', rfl, h2, h3, h4⟩ := zat (X := X) (mem := mem) hk (by show 14 < 99; omega)
  obtain ⟨g1, g2⟩ := i32_idx hb.1 hb.2 hm
  have h5 := kk X p l ev s m args below meth cq Z hP C R H locs ls hH hl hL
  rw [List.map_cons] at h5
  rw [List.map_cons, List.map_cons, h4]
  refine va_zald (D := (X.2.2.1, X.2.2.2.1)) (cl := vwCl) C.1 C.2.1 C.2.2.2.2.2.2.2.1.1 hH.1 i' 2 (h3.trans rfl) rfl g1 hd.1 ?_
  dsimp only
  rw [g2]
  exact h5
theorem zV_ald15 {m9 : Nat} (hd : decode mt.2.1 pc = .ok (.aaload, 1) ∧ pc + 1 = n) (hk : zkd sh a = (15, m9)) (hm : Nat.ble m9 100000 = true) (hb : 0 ≤ b ∧ b < m9) (kk : zV P mt sh u n L ((2, mem a b) :: st) mem Q) : zV P mt sh u pc L ((0, b) :: (2, a) :: st) mem Q := by
  intro X p l ev s m args below meth cq Z hP C R H locs ls hH hl hL
  rw [← hd.2] at kk
  obtain ⟨i', rfl, h2, h3, h4⟩ := zat (X := X) (mem := mem) hk (by show 15 < 99; omega)
  obtain ⟨g1, g2⟩ := i32_idx hb.1 hb.2 hm
  have h5 := kk X p l ev s m args below meth cq Z hP C R H locs ls hH hl hL
  rw [List.map_cons] at h5
  rw [List.map_cons, List.map_cons, h4]
  refine va_aldq (D := (X.2.2.1, X.2.2.2.1)) (cl := vwCl) C.1 C.2.1 C.2.2.2.2.2.2.2.1.1 hH.1 i' 3 (h3.trans rfl) rfl g1 hd.1 ?_
  dsimp only
  rw [g2]
  exact h5
theorem zV_ald16 {m9 : Nat} (hd : decode mt.2.1 pc = .ok (.aaload, 1) ∧ pc + 1 = n) (hk : zkd sh a = (16, m9)) (hm : Nat.ble m9 100000 = true) (hb : 0 ≤ b ∧ b < m9) (kk : zV P mt sh u n L ((2, mem a b) :: st) mem Q) : zV P mt sh u pc L ((0, b) :: (2, a) :: st) mem Q := by
  intro X p l ev s m args below meth cq Z hP C R H locs ls hH hl hL
  rw [← hd.2] at kk
  obtain ⟨i', rfl, h2, h3, h4⟩ := zat (X := X) (mem := mem) hk (by show 16 < 99; omega)
  obtain ⟨g1, g2⟩ := i32_idx hb.1 hb.2 hm
  have h5 := kk X p l ev s m args below meth cq Z hP C R H locs ls hH hl hL
  rw [List.map_cons] at h5
  rw [List.map_cons, List.map_cons, h4]
  refine va_aldq (D := (X.2.2.1, X.2.2.2.1)) (cl := vwCl) C.1 C.2.1 C.2.2.2.2.2.2.2.1.1 hH.1 i' 4 (h3.trans rfl) rfl g1 hd.1 ?_
  dsimp only
  rw [g2]
  exact h5
theorem zup_upd {α : Type} (g : Int → α) (mem : zMem) (i : Nat) (k v : Int) (kn : Nat) (hk : (kn : Int) = k) : (fun j : Nat => g (zup mem (i : Int) k v i j)) = (fun j : Nat => if j = kn then g v else g (mem i j)) := by
  funext j
  unfold zup
  by_cases h : j = kn
  · subst h
    rw [if_pos ⟨rfl, hk⟩, if_pos rfl]
  · rw [if_neg (by omega), if_neg h]
theorem zV_iast {m9 : Nat} {x : Int} (hd : decode mt.2.1 pc = .ok (.iastore, 1) ∧ pc + 1 = n) (hk : zkd sh a = (12, m9)) (hm : Nat.ble m9 100000 = true) (hb : 0 ≤ b ∧ b < m9) (kk : zV P mt sh u n L st (zup mem a b x) Q) : zV P mt sh u pc L ((0, x) :: (0, b) :: (2, a) :: st) mem Q := by
  intro X p l ev s m args below meth cq Z hP C R H locs ls hH hl hL
  rw [← hd.2] at kk
  obtain ⟨i', rfl, h2, h3, h4⟩ := zat (X := X) (mem := mem) hk (by show 12 < 99; omega)
  obtain ⟨g1, g2⟩ := i32_idx hb.1 hb.2 hm
  rw [List.map_cons, List.map_cons, List.map_cons, h4]
  have hat := hH.1 i' _ (h3.trans rfl)
  have hat2 : H[X.2.1.size + i']? = some (arrV (X.2.2.2.2.1 12) m9 (fun k => .int (Int32.ofInt (mem i' k)))) := hat
  refine W.iast C.1 C.2.1 hat2 ((C.2.2.2.2.2.2.2.1.1.2 0 _ rfl).1 m9 _) (fun q => by cases q) (by rw [arrV_size]; exact g1) rfl rfl hd.1 fun H1 e1 z oq => ?_
  refine kk X p l ev s m args below meth cq Z hP C R H1 _ ls (zH_set (e := zE X (zup mem i' b x) i' (12, m9)) hH h2 rfl (zup_o mem i' b x) ?_ z oq) (zlo_put hl) hL
  show H1[X.2.1.size + i']? = some (arrV (X.2.2.2.2.1 12) m9 (fun k => .int (Int32.ofInt (zup mem i' b x i' k))))
  rw [e1, arrV_store]
  congr 2
  rw [zup_upd (fun y => Value.int (Int32.ofInt y)) mem i' b x _ g2]
  funext q
  by_cases hq : q = (Int32.ofInt b).toNatClampNeg
  · subst hq; simp [updV]; try rfl
  · simp [updV, hq]; try rfl
theorem zV_last {m9 : Nat} {x : Int} (hd : decode mt.2.1 pc = .ok (.lastore, 1) ∧ pc + 1 = n) (hk : zkd sh a = (13, m9)) (hm : Nat.ble m9 100000 = true) (hb : 0 ≤ b ∧ b < m9) (kk : zV P mt sh u n L st (zup mem a b x) Q) : zV P mt sh u pc L ((1, x) :: (0, b) :: (2, a) :: st) mem Q := by
  intro X p l ev s m args below meth cq Z hP C R H locs ls hH hl hL
  rw [← hd.2] at kk
  obtain ⟨i', rfl, h2, h3, h4⟩ := zat (X := X) (mem := mem) hk (by show 13 < 99; omega)
  obtain ⟨g1, g2⟩ := i32_idx hb.1 hb.2 hm
  rw [List.map_cons, List.map_cons, List.map_cons, h4]
  have hat := hH.1 i' _ (h3.trans rfl)
  have hat2 : H[X.2.1.size + i']? = some (arrV (X.2.2.2.2.1 13) m9 (fun k => .long (Int64.ofInt (mem i' k)))) := hat
  refine W.last C.1 C.2.1 hat2 ((C.2.2.2.2.2.2.2.1.1.2 1 _ rfl).1 m9 _) (fun q => by cases q) (by rw [arrV_size]; exact g1) rfl rfl hd.1 fun H1 e1 z oq => ?_
  refine kk X p l ev s m args below meth cq Z hP C R H1 _ ls (zH_set (e := zE X (zup mem i' b x) i' (13, m9)) hH h2 rfl (zup_o mem i' b x) ?_ z oq) (zlo_put hl) hL
  show H1[X.2.1.size + i']? = some (arrV (X.2.2.2.2.1 13) m9 (fun k => .long (Int64.ofInt (zup mem i' b x i' k))))
  rw [e1, arrV_store]
  congr 2
  rw [zup_upd (fun y => Value.long (Int64.ofInt y)) mem i' b x _ g2]
  funext q
  by_cases hq : q = (Int32.ofInt b).toNatClampNeg
  · subst hq; simp [updV]; try rfl
  · simp [updV, hq]; try rfl
theorem zV_zast {m9 : Nat} {x : Int} (hd : decode mt.2.1 pc = .ok (.bastore, 1) ∧ pc + 1 = n) (hk : zkd sh a = (14, m9)) (hm : Nat.ble m9 100000 = true) (hb : 0 ≤ b ∧ b < m9) (hx : x = 0 ∨ x = 1) (kk : zV P mt sh u n L st (zup mem a b x) Q) : zV P mt sh u pc L ((0, x) :: (0, b) :: (2, a) :: st) mem Q := by
  intro X p l ev s m args below meth cq Z hP C R H locs ls hH hl hL
  rw [← hd.2] at kk
  obtain ⟨i', rfl, h2, h3, h4⟩ := zat (X := X) (mem := mem) hk (by show 14 < 99; omega)
  obtain ⟨g1, g2⟩ := i32_idx hb.1 hb.2 hm
  rw [List.map_cons, List.map_cons, List.map_cons, h4]
  have hat := hH.1 i' _ (h3.trans rfl)
  have hat2 : H[X.2.1.size + i']? = some (arrV (X.2.2.2.2.1 14) m9 (fun k => .int (Int32.ofInt (mem i' k)))) := hat
  refine W.zast C.1 C.2.1 hat2 ((C.2.2.2.2.2.2.2.1.1.2 2 _ rfl).1 m9 _) (fun q => by cases q) (by rw [arrV_size]; exact g1) rfl rfl hd.1 fun H1 e1 z oq => ?_
  have hnar : narrow .boolean (.int (Int32.ofInt x)) = .int (Int32.ofInt x) := by rcases hx with rfl | rfl <;> rfl
  rw [hnar] at e1
  refine kk X p l ev s m args below meth cq Z hP C R H1 _ ls (zH_set (e := zE X (zup mem i' b x) i' (14, m9)) hH h2 rfl (zup_o mem i' b x) ?_ z oq) (zlo_put hl) hL
  show H1[X.2.1.size + i']? = some (arrV (X.2.2.2.2.1 14) m9 (fun k => .int (Int32.ofInt (zup mem i' b x i' k))))
  rw [e1, arrV_store]
  congr 2
  rw [zup_upd (fun y => Value.int (Int32.ofInt y)) mem i' b x _ g2]
  funext q
  by_cases hq : q = (Int32.ofInt b).toNatClampNeg
  · subst hq; simp [updV]; try rfl
  · simp [updV, hq]; try rfl
theorem zV_aast {m9 m8 ck : Nat} {x : Int} (kd t0 : Nat) (hkd : (kd = 15 ∧ t0 = 3 ∧ ck = 0) ∨ (kd = 16 ∧ t0 = 4 ∧ ck = 6)) (hd : decode mt.2.1 pc = .ok (.aastore, 1) ∧ pc + 1 = n) (hk : zkd sh a = (kd, m9)) (hm : Nat.ble m9 100000 = true) (hb : 0 ≤ b ∧ b < m9) (hx : zkd sh x = (ck, m8)) (kk : zV P mt sh u n L st (zup mem a b x) Q) : zV P mt sh u pc L ((2, x) :: (0, b) :: (2, a) :: st) mem Q := by
  intro X p l ev s m args below meth cq Z hP C R H locs ls hH hl hL
  rw [← hd.2] at kk
  have hkd9 : kd < 99 := by omega
  have hck : ck < 12 := by omega
  obtain ⟨i', rfl, h2, h3, h4⟩ := zat (X := X) (mem := mem) hk hkd9
  obtain ⟨x', rfl, x2, x3, x4⟩ := zat (X := X) (mem := mem) hx (by show ck < 99; omega)
  obtain ⟨g1, g2⟩ := i32_idx hb.1 hb.2 hm
  rw [List.map_cons, List.map_cons, List.map_cons, h4, x4]
  have hE : ∀ mem : zMem, zE X mem i' (kd, m9) = .inl (X.2.2.2.2.1 kd, m9, .inr (.inr (.inr (.inr (fun k => zro X (mem i' k)))))) := by
    intro mem
    rcases hkd with ⟨rfl, -, -⟩ | ⟨rfl, -, -⟩ <;> rfl
  rw [hE] at h3
  have hat : H[X.2.1.size + i']? = some (arrV (X.2.2.2.2.1 kd) m9 (fun k => va_rf (zro X (mem i' k)))) := hH.1 i' _ h3
  rw [zE_cls X mem x' ck m8 hck] at x3
  obtain ⟨r', hr', cellV, v1, v2, v3, -⟩ := hH.1 x' _ x3
  have hK := C.2.2.2.2.2.2.2.1.1
  obtain ⟨w1, w2, w3, w4, w5⟩ := zcl_ok ck hck
  have hcls := (hK.1 ck _ w1).2
  have ht : (ztys X)[t0]? = some (X.2.2.2.2.1 kd, .object (zcl ck).1) := by
    rcases hkd with ⟨rfl, rfl, rfl⟩ | ⟨rfl, rfl, rfl⟩ <;> rfl
  obtain ⟨kA, comp, k1, k2, k3, -⟩ := (hK.2 t0 _ ht).2
  have hcomp : comp = X.2.2.1 ck := Option.some.inj (k3.symm.trans hcls.1)
  subst hcomp
  obtain ⟨kC, hkC, -⟩ := hcls.2
  have h0 : ¬ Int32.ofInt b < 0 := fun q => g1 (Or.inl q)
  have hlt : (Int32.ofInt b).toNatClampNeg < m9 := Nat.not_le.mp fun q => g1 (Or.inr q)
  refine W.aast C.1 C.2.1 hat (fun q h => by cases h) (fun h => by cases h) k1 k2 rfl hkC ⟨h0, by rw [arrV_size]; exact hlt⟩ v1 (fun q h => by rw [v3] at h; cases h) (by rw [v2]; exact hkC) (by rw [v2]; exact va_assign hcls) rfl rfl hd.1 fun H1 e1 z oq => ?_
  refine kk X p l ev s m args below meth cq Z hP C R H1 _ ls (zH_set (e := zE X (zup mem i' b x') i' (kd, m9)) hH h2 rfl (zup_o mem i' b x') ?_ z oq) (zlo_put hl) hL
  rw [hE]
  show H1[X.2.1.size + i']? = some (arrV (X.2.2.2.2.1 kd) m9 (fun k => va_rf (zro X (zup mem i' b x' i' k))))
  rw [e1, arrV_store]
  congr 2
  rw [zup_upd (fun y => va_rf (zro X y)) mem i' b x' _ g2]
  funext q
  by_cases hq : q = (Int32.ofInt b).toNatClampNeg
  · subst hq; simp [updV, zro_nat, va_rf]
  · simp [updV, hq]
theorem zV_alen {m9 kd : Nat} (hd : decode mt.2.1 pc = .ok (.arraylength, 1) ∧ pc + 1 = n) (hk : zkd sh a = (12, m9)) (kk : zV P mt sh u n L ((0, (m9 : Int)) :: st) mem Q) : zV P mt sh u pc L ((2, a) :: st) mem Q := by
  intro X p l ev s m args below meth cq Z hP C R H locs ls hH hl hL
  rw [← hd.2] at kk
  obtain ⟨i', rfl, h2, h3, h4⟩ := zat (X := X) (mem := mem) hk (by show 12 < 99; omega)
  have h5 := kk X p l ev s m args below meth cq Z hP C R H locs ls hH hl hL
  rw [List.map_cons] at h5
  rw [List.map_cons, h4]
  have hat : H[X.2.1.size + i']? = some (arrV (X.2.2.2.2.1 12) m9 (fun k => .int (Int32.ofInt (mem i' k)))) := hH.1 i' _ (h3.trans rfl)
  refine W.alen (n := Int32.ofInt (m9 : Int)) C.1 C.2.1 hat ((C.2.2.2.2.2.2.2.1.1.2 0 _ rfl).1 m9 _) ?_ rfl rfl hd.1 h5
  rw [arrV_size, Int32.ofInt_eq_ofNat]
/-- the script -/
theorem zV_slen {m9 : Nat} (hd : decode mt.2.1 pc = .ok (.arraylength, 1) ∧ pc + 1 = n) (hS : ∀ X, P X → X.2.2.2.2.2.1 = m9) (kk : zV P mt sh u n L ((0, (m9 : Int)) :: st) mem Q) : zV P mt sh u pc L ((2, -2) :: st) mem Q := by
  intro X p l ev s m args below meth cq Z hP C R H locs ls hH hl hL
  rw [← hd.2] at kk
  have h5 := kk X p l ev s m args below meth cq Z hP C R H locs ls hH hl hL
  rw [List.map_cons] at h5
  rw [List.map_cons, zcV_scr]
  obtain ⟨⟨scr, x1, x2, x3, x4, x5⟩, x6⟩ := C.2.2.2.2.2.2.2.1.2.1
  refine W.alen (n := Int32.ofInt (m9 : Int)) C.1 C.2.1 (by rw [hH.2.2 _ x6]; exact x1) x2 ?_ rfl rfl hd.1 h5
  rw [x4, hS X hP, Int32.ofInt_eq_ofNat]
theorem zV_sld {m9 : Nat} {xs : Nat → Int32} (hd : decode mt.2.1 pc = .ok (.iaload, 1) ∧ pc + 1 = n) (hS : ∀ X, P X → X.2.2.2.2.2.1 = m9 ∧ X.2.2.2.2.2.2 = xs) (hm : m9 ≤ 100000) (hb : 0 ≤ b ∧ b < m9) (kk : zV P mt sh u n L ((0, (xs b.toNat).toInt) :: st) mem Q) : zV P mt sh u pc L ((0, b) :: (2, -2) :: st) mem Q := by
  intro X p l ev s m args below meth cq Z hP C R H locs ls hH hl hL
  rw [← hd.2] at kk
  have h5 := kk X p l ev s m args below meth cq Z hP C R H locs ls hH hl hL
  rw [List.map_cons] at h5
  rw [List.map_cons, List.map_cons, zcV_scr]
  obtain ⟨⟨scr, x1, x2, x3, x4, x5⟩, x6⟩ := C.2.2.2.2.2.2.2.1.2.1
  obtain ⟨s1, s2⟩ := hS X hP
  obtain ⟨g1, g2⟩ := i32_idx hb.1 hb.2 (Nat.ble_eq.mpr hm)
  have hlt : (Int32.ofInt b).toNatClampNeg < m9 := Nat.not_le.mp fun q => g1 (Or.inr q)
  have hbn : (Int32.ofInt b).toNatClampNeg = b.toNat := by omega
  refine W.iald (v := .int (xs b.toNat)) C.1 C.2.1 (by rw [hH.2.2 _ x6]; exact x1) x2 x3 (by rw [x4, s1]; exact g1) ?_ rfl rfl hd.1 ?_
  · rw [x5 _ (by rw [s1]; exact hlt), s2, hbn]
  · have e : zcV X (0, (xs b.toNat).toInt) = .int (xs b.toNat) := by show Value.int (Int32.ofInt _) = _; rw [Int32.ofInt_toInt]
    rw [e] at h5
    exact h5
def zblk (c : Nat) (k : Int) : Int := if ztag (zty c k.toNat) = 2 then -1 else 0
theorem zty_nf : ∀ c, c < 12 → ∀ k, k < zN c → zty c k ≠ .float ∧ zty c k ≠ .double := by decide +kernel
theorem zdef (X : zCT) (ty : FieldType) (h : ty ≠ .float ∧ ty ≠ .double) : defaultValue ty = zcV X (ztag ty, if ztag ty = 2 then -1 else 0) := by cases ty <;> first | rfl | exact absurd rfl h.1 | exact absurd rfl h.2
def zupA (mem : zMem) (a : Int) (f : Int → Int) : zMem := fun a' k' => if a' = a then f k' else mem a' k'
theorem zW_new (X : zCT) (sh : zSh) (mem : zMem) (f : Int → Int) (q : Nat × Nat) : zW X (sh ++ [q]) (zupA mem (sh.length : Int) f) = zW X sh mem ++ [(X.2.1.size + sh.length, zE X (fun _ => f) sh.length q)] := by
  rw [zW_app]
  have e1 : zE X (zupA mem (sh.length : Int) f) sh.length q = zE X (fun _ => f) sh.length q := by
    unfold zE zupA
    simp
  rw [e1]
  congr 1
  apply List.ext_getElem?
  intro j
  rw [zW_get, zW_get]
  cases hs : sh[j]? with
  | none => rfl
  | some p =>
    have hj : j < sh.length := (List.getElem?_eq_some_iff.mp hs).1
    have e : zupA mem (sh.length : Int) f (j : Int) = mem j := by
      funext k
      unfold zupA
      rw [if_neg (by omega)]
    simp only [Option.map_some]
    unfold zE
    rw [e]
theorem zH_new {X : zCT} {sh : zSh} {mem : zMem} {H H1 : Heap} {q : Nat × Nat} {f : Int → Int} (hH : zH X sh mem H) (h1 : va_at (X.2.2.1, X.2.2.2.1) vwCl (X.2.1.size + sh.length, zE X (fun _ => f) sh.length q) H1) (z : H1.size = H.size + 1) (oq : ∀ x : Nat, x < H.size → H1[x]? = H[x]?) : zH X (sh ++ [q]) (zupA mem (sh.length : Int) f) H1 := by
  obtain ⟨hP, hs, hb⟩ := hH
  refine ⟨?_, by rw [z, hs]; simp; omega, fun x hx => by rw [oq x (by omega)]; exact hb x hx⟩
  rw [zW_new]
  refine va_P.app (hP.kept fun k x hx => oq x.1 ((hP k x hx).lt)) (fun k x hx => ?_)
  have hz : k < 1 := (List.getElem?_eq_some_iff.mp hx).1
  rw [show k = 0 by omega] at hx
  cases hx
  exact h1
/-- a class's entry of the pool -/
def zCk (own : String) (i c : Nat) : Prop := c < 12 ∧ Cond.classLink own i (zcl c).1 ∈ zwsG ∧ Cond.instantiable (zcl c).1 (zN c) ∈ zwsG ∧ Cond.initialized (zcl c).1 ∈ zwsG
theorem zV_new {i c : Nat} {nI : Int} (hd : decode mt.2.1 pc = .ok (.new i, 3) ∧ pc + 3 = n) (hc : zCk mt.1.cls i c) (hn : (sh.length : Int) = nI) (hu : u.1 + 1 ≤ (zrm mt).cells ∧ u.2 + zN c ≤ (zrm mt).slots) (kk : zV P mt (sh ++ [(c, 0)]) (u.1 + 1, u.2 + zN c) n L ((2, nI) :: st) (zupA mem nI (zblk c)) Q) : zV P mt sh u pc L st mem Q := by
  intro X p l ev s m args below meth cq Z hP C R H locs ls hH hl hL
  rw [← hd.2] at kk
  subst hn
  obtain ⟨hc12, hcl, hin, hini⟩ := hc
  obtain ⟨w1, w2, w3, w4, w5⟩ := zcl_ok c hc12
  have hts := C.2.2.2.2.2.2.1
  have hKn := C.2.2.2.2.2.2.2.1.1.1 c _ w1
  refine W.newcK C.1 C.2.1 C.2.2.2.2.2.1 (hts _ hcl) (hts _ hin) (hts _ hini) rfl hd.1 hu.1 hu.2 hKn.2.1 hH.2.1 fun H1 kC hkC e1 z1 o1 => ?_
  have h5 := kk X p l ev s m args below meth cq Z hP C R H1 locs ls (zH_new hH ?_ (by rw [z1, hH.2.1]) (fun x hx => o1 x (by rw [← hH.2.1]; exact hx))) hl hL
  · rw [List.map_cons, zcV_ref] at h5
    exact h5
  · rw [zE_cls X _ _ c 0 hc12]
    refine ⟨_, w1, (u_born (zty c) hts w2 hKn hkC e1 w3).to fun j hj => ?_⟩
    have hj' : j < zN c := by rw [w5]; exact hj
    unfold vp_V
    rw [List.getD_eq_getElem?_getD, List.getElem?_map, List.getElem?_range hj']
    show defaultValue (zty c j) = zcV X (ztag (zty c j), zblk c j)
    unfold zblk
    simp only [Int.toNat_natCast]
    exact zdef X (zty c j) (zty_nf c hc12 j hj')
theorem zV_newa {kd m9 : Nat} {nI : Int} (aty : ArrayType) (ty : FieldType) (hk : (kd = 12 ∧ aty = .int ∧ ty = .int) ∨ (kd = 13 ∧ aty = .long ∧ ty = .long) ∨ (kd = 14 ∧ aty = .boolean ∧ ty = .boolean)) (hd : decode mt.2.1 pc = .ok (.newarray aty, 2) ∧ pc + 2 = n) (hw : Cond.arrayClass ty ∈ zwsG) (hm : (m9 : Int) = a ∧ Nat.ble m9 100000 = true) (hn : (sh.length : Int) = nI) (hu : u.1 + 1 ≤ (zrm mt).cells ∧ u.2 + m9 ≤ (zrm mt).slots) (kk : zV P mt (sh ++ [(kd, m9)]) (u.1 + 1, u.2 + m9) n L ((2, nI) :: st) (zupA mem nI (fun _ => 0)) Q) : zV P mt sh u pc L ((0, a) :: st) mem Q := by
  intro X p l ev s m args below meth cq Z hP C R H locs ls hH hl hL
  rw [← hd.2] at kk
  subst hn
  obtain ⟨rfl, hm9⟩ := hm
  have hm9' := Nat.le_of_ble_eq_true hm9
  have hts := C.2.2.2.2.2.2.1
  have hty : newarray.typeOf aty = ty := by rcases hk with ⟨-, rfl, rfl⟩ | ⟨-, rfl, rfl⟩ | ⟨-, rfl, rfl⟩ <;> rfl
  have hcl : (Int32.ofInt (m9 : Int)).toNatClampNeg = m9 := by
    rw [Int32.toNatClampNeg_ofInt_of_le (by omega) (by omega)]
    omega
  have hcb : componentBytes ty ≤ 8 := by rcases hk with ⟨-, -, rfl⟩ | ⟨-, -, rfl⟩ | ⟨-, -, rfl⟩ <;> decide
  refine va_newaK (N := m9) (h := X.2.1.size + sh.length) C.1 C.2.1 (by rw [hty]; exact hts _ hw) rfl hd.1 rfl ?_ hcl ?_ hu.1 hu.2 hH.2.1 fun H1 cA e1 z1 o1 hAr hNm => ?_
  · show ¬ Int32.ofInt (m9 : Int) < 0
    rw [Int32.lt_iff_toInt_lt, i32_toInt ⟨by omega, by omega⟩, Int32.toInt_zero]
    omega
  · rw [hty]
    have := Nat.mul_le_mul hm9' hcb
    omega
  rw [hty] at e1 hAr hNm
  have hK := C.2.2.2.2.2.2.2.1.1
  have hcA : X.2.2.2.2.1 kd = cA := by
    rcases hk with ⟨rfl, -, rfl⟩ | ⟨rfl, -, rfl⟩ | ⟨rfl, -, rfl⟩
    · exact Option.some.inj ((hK.2 0 _ rfl).2.symm.trans hNm)
    · exact Option.some.inj ((hK.2 1 _ rfl).2.symm.trans hNm)
    · exact Option.some.inj ((hK.2 2 _ rfl).2.symm.trans hNm)
  have h5 := kk X p l ev s m args below meth cq Z hP C R H1 locs ls (zH_new hH ?_ (by rw [z1, hH.2.1]) (fun x hx => o1 x (by rw [← hH.2.1]; exact hx))) hl hL
  · rw [List.map_cons, zcV_ref] at h5
    exact h5
  · rcases hk with ⟨rfl, -, rfl⟩ | ⟨rfl, -, rfl⟩ | ⟨rfl, -, rfl⟩
    · show H1[_]? = some (arrV (X.2.2.2.2.1 12) m9 (fun _ => .int (Int32.ofInt 0)))
      rw [hcA, e1]; rfl
    · show H1[_]? = some (arrV (X.2.2.2.2.1 13) m9 (fun _ => .long (Int64.ofInt 0)))
      rw [hcA, e1]; rfl
    · show H1[_]? = some (arrV (X.2.2.2.2.1 14) m9 (fun _ => .int (Int32.ofInt 0)))
      rw [hcA, e1]; rfl
theorem zV_anew {kd m9 i : Nat} {nI : Int} (Cn : String) (hk : (kd = 15 ∧ Cn = "CellPlane$Curve") ∨ (kd = 16 ∧ Cn = "CellPlane$Root")) (hd : decode mt.2.1 pc = .ok (.anewarray i, 3) ∧ pc + 3 = n) (hw : Cond.classLink mt.1.cls i Cn ∈ zwsG) (hm : (m9 : Int) = a ∧ Nat.ble m9 100000 = true) (hn : (sh.length : Int) = nI) (hu : u.1 + 1 ≤ (zrm mt).cells ∧ u.2 + m9 ≤ (zrm mt).slots) (kk : zV P mt (sh ++ [(kd, m9)]) (u.1 + 1, u.2 + m9) n L ((2, nI) :: st) (zupA mem nI (fun _ => -1)) Q) : zV P mt sh u pc L ((0, a) :: st) mem Q := by
  intro X p l ev s m args below meth cq Z hP C R H locs ls hH hl hL
  rw [← hd.2] at kk
  subst hn
  obtain ⟨rfl, hm9⟩ := hm
  have hm9' := Nat.le_of_ble_eq_true hm9
  have hts := C.2.2.2.2.2.2.1
  have hcl : (Int32.ofInt (m9 : Int)).toNatClampNeg = m9 := by
    rw [Int32.toNatClampNeg_ofInt_of_le (by omega) (by omega)]
    omega
  have hover : (Cond.arrayOver (.object Cn)).before args s = true := by
    rcases hk with ⟨-, rfl⟩ | ⟨-, rfl⟩
    · exact va_AO.use C.2.2.2.2.2.2.2.1.2.2.2.1
    · exact va_AO.use C.2.2.2.2.2.2.2.1.2.2.2.2
  refine W.anew C.1 C.2.1 C.2.2.2.2.2.1 (hts _ hw) hover rfl hd.1 rfl ?_ (by rw [hcl]; omega) hu.1 (by rw [hcl]; exact hu.2) fun cA kA comp f1 f2 f3 f4 => ?_
  · show ¬ Int32.ofInt (m9 : Int) < 0
    rw [Int32.lt_iff_toInt_lt, i32_toInt ⟨by omega, by omega⟩, Int32.toInt_zero]
    omega
  rw [hcl]
  have hK := C.2.2.2.2.2.2.2.1.1
  have hcA : X.2.2.2.2.1 kd = cA := by
    rcases hk with ⟨rfl, rfl⟩ | ⟨rfl, rfl⟩
    · obtain ⟨_, _, _, _, _, h9⟩ := (hK.2 3 _ rfl).2
      exact Option.some.inj (h9.symm.trans f1)
    · obtain ⟨_, _, _, _, _, h9⟩ := (hK.2 4 _ rfl).2
      exact Option.some.inj (h9.symm.trans f1)
  have h5 := kk X p l ev s m args below meth cq Z hP C R (H.push ({ cls := cA, slots := Array.replicate m9 .null, vm := .none } : Cell)) locs ls (zH_new hH ?_ (by rw [Array.size_push]) (fun x hx => by rw [Array.getElem?_push, if_neg (Nat.ne_of_lt hx)])) hl hL
  · rw [List.map_cons, zcV_ref, ← hH.2.1] at h5
    exact h5
  · have e1 : (H.push ({ cls := cA, slots := Array.replicate m9 .null, vm := .none } : Cell))[X.2.1.size + sh.length]? = some (arrV cA m9 (fun _ => .null)) := by rw [← hH.2.1, Array.getElem?_push_size, ← arrV_new]
    rcases hk with ⟨rfl, -⟩ | ⟨rfl, -⟩
    · show _ = some (arrV (X.2.2.2.2.1 15) m9 (fun _ => .null))
      rw [hcA, e1]
    · show _ = some (arrV (X.2.2.2.2.1 16) m9 (fun _ => .null))
      rw [hcA, e1]
end zHEAP
