/-! the same for a member of a class of which the machine runs other members itself -/
/-- a contract out of a walk -/
theorem zSp_ofF {mt : zMT} {avs : List zAV} {sh : zSh} {mem : zMem} {Q : zQT} (hy : plainFor mt.1 = true) (hn : (zal avs).length ≤ mt.2.2.1) (hw : zV zT mt sh (0, 0) 0 (zpad mt.2.2.1 (zal avs)) [] mem Q) : zSp mt avs sh mem Q := by
  intro l X
  refine va_MetF (cc := mt.2.1) (maxL := mt.2.2.1) (ret := mt.2.2.2.1) (ws' := zwsG) hy rfl ?_
  intro p e s m args below meth c s₁ B hml hv
  obtain ⟨rfl, hk, hh⟩ := hv
  have hts := atoms_spec (ws := zws mt) B.pre
  rw [lg_entry_eq]
  have hl := lv_entry (avs.map (zcV X)) (n := mt.2.2.1) (by rw [zal_len]; exact hn)
  generalize (lg_sl (avs.map (zcV X)) ++ List.replicate (mt.2.2.1 - (lg_sl (avs.map (zcV X))).length) Slot.unset).toArray = ls at hl ⊢
  have C : zC mt X p s m ((avs.map (zcV X)).toArray) meth c := ⟨B.exec, B.bytes, hml, B.returns, B.notSynchronized, findClass_of_methodNamed B.named, fun w h => hts w (List.mem_cons_of_mem _ h), hk, fun _ => (name_of_methodNamed B.named B.method).1⟩
  refine hw X p l e s m _ below meth c _ trivial C ?_ s.heap [] ls hh (fun q h => by cases h) ⟨hl.1, hl.2.1, fun i v h => ?_⟩
  · intro pc ls H locs cells slots r sh mem i hd hi hH hlo hc1 hc2 hq
    refine W.widen hc1 hc2 ?_
    rcases hi with ⟨rfl, v, rfl, hr⟩ | ⟨rfl, hr, v, rfl⟩ | ⟨rfl, hr, rfl⟩
    · have post : ∀ t : State, t.heap = H → s.WarmedH t.vm → zQc X Q ((avs.map (zcV X)).toArray) s (.returned (some (.int (Int32.ofInt v)))) t := fun t ht _ => ⟨some (0, v), sh, mem, rfl, hq, by rw [ht]; exact hH⟩
      rcases hr with hr | ⟨hr, hv⟩
      · exact W.iret B.exec B.bytes (B.returns.trans hr) post hlo hd B.notSynchronized
      · refine W.zret B.exec B.bytes (B.returns.trans hr) ?_ post hlo hd B.notSynchronized
        rcases hv with rfl | rfl
        · exact narrow_b0
        · exact narrow_b1
    · exact W.lret B.exec B.bytes (B.returns.trans hr) (fun t ht _ => ⟨some (1, v), sh, mem, rfl, hq, by rw [ht]; exact hH⟩) hlo hd B.notSynchronized
    · exact W.vret B.exec B.bytes (B.returns.trans hr) (fun t ht _ => ⟨none, sh, mem, rfl, hq, by rw [ht]; exact hH⟩) hlo hd B.notSynchronized
  · have h1 := zal_args X avs 0 i v (zgl_pad _ _ i v h)
    rw [Nat.zero_add] at h1
    exact hl.2.2 _ h1
theorem zF_ofF {mt : zMT} {avs : List zAV} {mem : zMem} {Q : zQ2} (hy : plainFor mt.1 = true) (hn : (zal avs).length ≤ mt.2.2.1) (hw : zS zT mt (0, 0) 0 (zpad mt.2.2.1 (zal avs)) [] mem (zQs Q)) : zF mt avs mem Q := zSp_ofF hy hn hw
theorem pf_max : plainFor m_Ma_max.1 = true := by decide +kernel
theorem pf_min : plainFor m_Ma_min.1 = true := by decide +kernel
theorem pf_fd : plainFor m_Ma_floorDiv.1 = true := by decide +kernel
theorem pf_fm : plainFor m_Ma_floorMod.1 = true := by decide +kernel
