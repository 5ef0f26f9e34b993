/-! the first memory: what holds at the start -/
def tx0 : Nat → Int32 := fun i => ([115, 108, 97, 110, 116, 115, 32, 52, 32, 59, 32, 100, 117, 101, 115, 32, 50, 32, 59, 32, 115, 101, 116, 115, 32, 48, 32, 59, 32, 32, 32, 32] : List Int32).getD i 0
theorem tx0_mem : ∀ i, i < 32 → muF.1 51 i = tx0 i ∧ tx0 i = nI (tx0 i).toNatClampNeg ∧ (tx0 i).toNatClampNeg < 256 := by decide +kernel
theorem tx0_read : (tx_s (pr_E tx0 32) tx0 32).2 = false ∧ (tx_0 (pr_E tx0 32) tx0 32).2 = [4] ∧ (tx_1 (pr_E tx0 32) tx0 32).2 = [2] ∧ (tx_2 (pr_E tx0 32) tx0 32).2 = [0] := by decide +kernel
theorem muF_nums : (muF.1 50 11 = 0 ∧ muF.1 50 3 = 1 ∧ muF.1 50 4 = 0 ∧ muF.1 50 7 = 0 ∧ muF.1 1 5 = 0 ∧ muF.1 50 8 = 0 ∧ muF.1 1 6 = 0 ∧ muF.1 50 27 = -1 ∧ muF.1 1 2 = 0 ∧ muF.1 1 3 = 1 ∧ muF.1 1 4 = 0 ∧ muF.1 1 11 = -1 ∧ muF.1 34 0 = 0 ∧ muF.1 50 6 = 0 ∧ muF.1 36 0 = 0 ∧ muF.1 50 35 = -1) ∧ (muF.1 52 0 = 32 ∧ muF.1 17 0 = 4 ∧ muF.1 17 1 = 2 ∧ muF.1 17 2 = 0 ∧ muF.1 18 0 = 1 ∧ muF.1 18 1 = 2 ∧ muF.1 18 2 = 3) ∧ ∀ s, s < 4 → muF.1 (42 + 2 * s) 1 = -1 ∧ muF.1 60 s = 0 ∧ muF.1 (42 + 2 * s) 2 = 0 := by decide +kernel
theorem tx_first : TX muF.1 muF.1 0 := by
  obtain ⟨-, ⟨e52, e0, e1, e2, f0, f1, f2⟩, -⟩ := muF_nums
  have hB : ∀ i, i < 32 → tB muF.1 0 i = tx0 i := fun i hi => by
    show muF.1 51 (160 * 0 + i) = _
    rw [show 160 * 0 + i = i by omega]
    exact (tx0_mem i hi).1
  have eg : pr_E (tB muF.1 0) 32 = pr_E tx0 32 := pr_E_c hB
  obtain ⟨c0, c1, c2, cs⟩ := tx_s_c (g := pr_E tx0 32) hB
  obtain ⟨r, r0, r1, r2⟩ := tx0_read
  have cc : tx_c (pr_E tx0 32) (tB muF.1 0) 32 = [4, 2, 0] := by unfold tx_c; rw [c0, c1, c2, r0, r1, r2]; rfl
  refine ⟨32, pr_E tx0 32, ⟨by decide, e52, by decide, fun i hi => ⟨(tx0 i).toNatClampNeg, (tx0_mem i hi).2.2, ?_⟩⟩, eg.symm, by rw [cs]; exact r, fun j hj => ?_, ?_, ?_, ?_⟩
  · rw [show 160 * 0 + i = i by omega, (tx0_mem i hi).1]
    exact (tx0_mem i hi).2.1
  · rw [cc] at hj ⊢
    have : j = 0 ∨ j = 1 ∨ j = 2 := by
      have hj : j < 3 := hj
      omega
    rcases this with rfl | rfl | rfl
    · exact e0
    · exact e1
    · exact e2
  · rw [c0, r0]; exact f0
  · rw [c0, c1, r0, r1]; exact f1
  · rw [cc]; exact f2
theorem INV.first : INV muF.1 muF.1 0 0 1 0 := by
  obtain ⟨⟨a1, a2, a3, a4, a5, a6, a7, a8, a9, a10, a11, a12, a13, a14, a15, a16⟩, -, hs⟩ := muF_nums
  refine ⟨⟨⟨by decide, a1, by decide, by decide, a2, a3⟩, ⟨a4.trans a5.symm, a6.trans a7.symm⟩, fun i hi => absurd hi (Nat.not_lt_zero i), fun i hi => absurd hi (Nat.not_lt_zero i), fun t' ht => ?_⟩, fun s h => Or.inl ⟨(hs s h).1, (hs s h).2.1⟩, a8, ⟨a9, a10, a11, a12⟩, fun s h => ⟨0, by decide, (hs s h).2.2⟩, ⟨by decide, a13, a14, fun i hi => absurd hi (Nat.not_lt_zero i)⟩, ⟨0, by decide, a7⟩, Or.inl ⟨a15, a16⟩⟩
  have : t' = 0 := by omega
  rw [this]
  exact tx_first
