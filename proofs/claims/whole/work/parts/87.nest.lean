/-! nest mates' links, arrays' classes, the constants' words at the start -/
theorem mem_ml : ∀ q ∈ z_ml, Cond.methodLinkNest q.1 q.2.1 q.2.2.1 q.2.2.2 ∈ lw_tbl := by decide +kernel
theorem mem_fl : ∀ q ∈ z_fl, Cond.fieldLinkNest q.1 q.2.1 q.2.2.1 q.2.2.2.1 q.2.2.2.2.1 q.2.2.2.2.2 ∈ lw_tbl := by decide +kernel
theorem mem_ao : ∀ C ∈ [RX2, RX3, RX5], Cond.arrayOver (.object C) ∈ lw_tbl := by decide +kernel
theorem mem_sr : ∀ q ∈ z_sk, Cond.stringRef "ShadowTax$Reader" q.1 q.2 ∈ lw_tbl := by decide +kernel
theorem st_nx {a : Array Value} {s : State} {oa : Nat → Nat} (hts : ∀ w ∈ lw_tbl, w.before a s = true) (hK : ∀ i : Nat, i < 12 → (tmS i).eval a s none [] s = some (.ref (oa (10 + i)))) : zNx oa s := by
  refine ⟨fun q hq => hts _ (mem_ml q hq), fun q hq => hts _ (mem_fl q hq), fun C hC => va_AO.of (hts _ (mem_ao C hC)), fun i q hq => ?_⟩
  have hi : i < 12 := (List.getElem?_eq_some_iff.mp hq).1
  have e := hK i hi
  have et : tmS i = Term.string "ShadowTax$Reader" q.1 := by unfold tmS; rw [List.getD_eq_getElem?_getD, hq]; rfl
  rw [et] at e
  exact vk_R.of (hts _ (mem_sr q (List.mem_of_getElem? hq))) e
