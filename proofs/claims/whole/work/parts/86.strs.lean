/-! the String constants at the start -/
def tmS (i : Nat) : Term := Term.string "ShadowTax$Reader" (z_sk.getD i (0, "")).1
theorem sF_ex : ∀ i, i < 12 → Cond.exactly (tmS i) "java/lang/String" ∈ flatC (Jvm.Cond.and given_1 narrow_1) ∧ Cond.eq (.field (tmS i) "java/lang/String" "coder" "B") (.int 0) ∈ flatC (Jvm.Cond.and given_1 narrow_1) ∧ Cond.arrayOf (.field (tmS i) "java/lang/String" "value" "[B") .byte ∈ flatC (Jvm.Cond.and given_1 narrow_1) ∧ Cond.eq (.length (.field (tmS i) "java/lang/String" "value" "[B")) (.int (Int32.ofNat (z_sl.getD i 0))) ∈ flatC (Jvm.Cond.and given_1 narrow_1) := by decide +kernel
theorem sF_el : ∀ i, i < 12 → ∀ j, j < z_sl.getD i 0 → Cond.eq (.elem (.field (tmS i) "java/lang/String" "value" "[B") (.int (Int32.ofNat j))) (.int ((z_sb.getD i []).getD j 0)) ∈ flatC (Jvm.Cond.and given_1 narrow_1) := by decide +kernel
theorem sF_ne : ∀ j, j < 12 → ∀ i, i < j → Cond.not (Cond.eq (tmS i) (tmS j)) ∈ flatC (Jvm.Cond.and given_1 narrow_1) := by decide +kernel
theorem st_str {a : Array Value} {s : State} (h : z_giv s a) : ∃ adK adV : Nat → Nat, vk_S 12 z_sl z_sb adK adV (fun q => s.heap.size ≤ q) s s.heap ∧ ∀ i : Nat, i < 12 → (tmS i).eval a s none [] s = some (.ref (adK i)) := by
  have hs := flat_of_before _ h
  refine vk_Sof (fun i hi => by have := z_sl_b i hi; omega) (fun i hi => hs _ (sF_ex i hi).1) (fun i hi => hs _ (sF_ex i hi).2.1) (fun i hi => hs _ (sF_ex i hi).2.2.1) (fun i hi => hs _ (sF_ex i hi).2.2.2) (fun i hi j hj => hs _ (sF_el i hi j hj)) (fun i j hi hj hij => ?_) (fun q hq => Nat.not_le.mpr hq)
  rcases Nat.lt_or_ge i j with q | q
  · exact Or.inl (hs _ (sF_ne j hj i q))
  · exact Or.inr (hs _ (sF_ne i hi j (by omega)))
