/-! LOWEST, HIGHEST, ABOVE at the start -/
def z_giv (s : State) (a : Array Value) : Prop := (Jvm.Cond.and given_1 narrow_1).before a s = true
theorem st_0 {a : Array Value} {s : State} {X : zXs} (h : z_giv s a) (hts : ∀ w ∈ lw_tbl, w.before a s = true) : ∃ t : Nat, t < s.heap.size ∧ va_X t 6 (z_of X 0) s s.heap ∧ va_Z "ShadowTax" "LOWEST" "[I" (.ref t) (fun q => s.heap.size ≤ q) s s.heap := by
  have hs := flat_of_before _ h
  have e0 := va_eqt (hs (Cond.eq (.elem (Term.static "ShadowTax" "LOWEST" "[I") (.int 0)) (.int 0)) (by decide +kernel))
  have e1 := va_eqt (hs (Cond.eq (.elem (Term.static "ShadowTax" "LOWEST" "[I") (.int 1)) (.int 0)) (by decide +kernel))
  have e2 := va_eqt (hs (Cond.eq (.elem (Term.static "ShadowTax" "LOWEST" "[I") (.int 2)) (.int 0)) (by decide +kernel))
  have e3 := va_eqt (hs (Cond.eq (.elem (Term.static "ShadowTax" "LOWEST" "[I") (.int 3)) (.int 1)) (by decide +kernel))
  have e4 := va_eqt (hs (Cond.eq (.elem (Term.static "ShadowTax" "LOWEST" "[I") (.int 4)) (.int 0)) (by decide +kernel))
  have e5 := va_eqt (hs (Cond.eq (.elem (Term.static "ShadowTax" "LOWEST" "[I") (.int 5)) (.int 0)) (by decide +kernel))
  obtain ⟨t, h1, h2, h3⟩ := va_Xs (tm := (Term.static "ShadowTax" "LOWEST" "[I")) (N := 6) (f := z_of X 0) (by decide) (hs (Cond.arrayOf (Term.static "ShadowTax" "LOWEST" "[I") .int) (by decide +kernel)) (va_eqt (hs (Cond.eq (.length (Term.static "ShadowTax" "LOWEST" "[I")) (.int 6)) (by decide +kernel))) (fun j hj => match j, hj with
    | 0, _ => e0
    | 1, _ => e1
    | 2, _ => e2
    | 3, _ => e3
    | 4, _ => e4
    | 5, _ => e5
    | j + 6, hj => absurd hj (by omega))
  exact ⟨t, h2, h3, va_Zref (hts (.laysStatic "ShadowTax" "LOWEST" "[I") (by decide +kernel)) (hts (.initialized "ShadowTax") (by decide +kernel)) h1 (fun a ha => Nat.not_le.mpr ha)⟩
theorem st_1 {a : Array Value} {s : State} {X : zXs} (h : z_giv s a) (hts : ∀ w ∈ lw_tbl, w.before a s = true) : ∃ t : Nat, t < s.heap.size ∧ va_X t 6 (z_of X 1) s s.heap ∧ va_Z "ShadowTax" "HIGHEST" "[I" (.ref t) (fun q => s.heap.size ≤ q) s s.heap := by
  have hs := flat_of_before _ h
  have e0 := va_eqt (hs (Cond.eq (.elem (Term.static "ShadowTax" "HIGHEST" "[I") (.int 0)) (.int 364)) (by decide +kernel))
  have e1 := va_eqt (hs (Cond.eq (.elem (Term.static "ShadowTax" "HIGHEST" "[I") (.int 1)) (.int 8191)) (by decide +kernel))
  have e2 := va_eqt (hs (Cond.eq (.elem (Term.static "ShadowTax" "HIGHEST" "[I") (.int 2)) (.int 9)) (by decide +kernel))
  have e3 := va_eqt (hs (Cond.eq (.elem (Term.static "ShadowTax" "HIGHEST" "[I") (.int 3)) (.int 20)) (by decide +kernel))
  have e4 := va_eqt (hs (Cond.eq (.elem (Term.static "ShadowTax" "HIGHEST" "[I") (.int 4)) (.int 29)) (by decide +kernel))
  have e5 := va_eqt (hs (Cond.eq (.elem (Term.static "ShadowTax" "HIGHEST" "[I") (.int 5)) (.int 5)) (by decide +kernel))
  obtain ⟨t, h1, h2, h3⟩ := va_Xs (tm := (Term.static "ShadowTax" "HIGHEST" "[I")) (N := 6) (f := z_of X 1) (by decide) (hs (Cond.arrayOf (Term.static "ShadowTax" "HIGHEST" "[I") .int) (by decide +kernel)) (va_eqt (hs (Cond.eq (.length (Term.static "ShadowTax" "HIGHEST" "[I")) (.int 6)) (by decide +kernel))) (fun j hj => match j, hj with
    | 0, _ => e0
    | 1, _ => e1
    | 2, _ => e2
    | 3, _ => e3
    | 4, _ => e4
    | 5, _ => e5
    | j + 6, hj => absurd hj (by omega))
  exact ⟨t, h2, h3, va_Zref (hts (.laysStatic "ShadowTax" "HIGHEST" "[I") (by decide +kernel)) (hts (.initialized "ShadowTax") (by decide +kernel)) h1 (fun a ha => Nat.not_le.mpr ha)⟩
theorem st_2 {a : Array Value} {s : State} {X : zXs} (h : z_giv s a) (hts : ∀ w ∈ lw_tbl, w.before a s = true) : ∃ t : Nat, t < s.heap.size ∧ va_X t 6 (z_of X 2) s s.heap ∧ va_Z "ShadowTax" "ABOVE" "[I" (.ref t) (fun q => s.heap.size ≤ q) s s.heap := by
  have hs := flat_of_before _ h
  have e0 := va_eqt (hs (Cond.eq (.elem (Term.static "ShadowTax" "ABOVE" "[I") (.int 0)) (.int (-1))) (by decide +kernel))
  have e1 := va_eqt (hs (Cond.eq (.elem (Term.static "ShadowTax" "ABOVE" "[I") (.int 1)) (.int 0)) (by decide +kernel))
  have e2 := va_eqt (hs (Cond.eq (.elem (Term.static "ShadowTax" "ABOVE" "[I") (.int 2)) (.int 0)) (by decide +kernel))
  have e3 := va_eqt (hs (Cond.eq (.elem (Term.static "ShadowTax" "ABOVE" "[I") (.int 3)) (.int 1)) (by decide +kernel))
  have e4 := va_eqt (hs (Cond.eq (.elem (Term.static "ShadowTax" "ABOVE" "[I") (.int 4)) (.int 2)) (by decide +kernel))
  have e5 := va_eqt (hs (Cond.eq (.elem (Term.static "ShadowTax" "ABOVE" "[I") (.int 5)) (.int 0)) (by decide +kernel))
  obtain ⟨t, h1, h2, h3⟩ := va_Xs (tm := (Term.static "ShadowTax" "ABOVE" "[I")) (N := 6) (f := z_of X 2) (by decide) (hs (Cond.arrayOf (Term.static "ShadowTax" "ABOVE" "[I") .int) (by decide +kernel)) (va_eqt (hs (Cond.eq (.length (Term.static "ShadowTax" "ABOVE" "[I")) (.int 6)) (by decide +kernel))) (fun j hj => match j, hj with
    | 0, _ => e0
    | 1, _ => e1
    | 2, _ => e2
    | 3, _ => e3
    | 4, _ => e4
    | 5, _ => e5
    | j + 6, hj => absurd hj (by omega))
  exact ⟨t, h2, h3, va_Zref (hts (.laysStatic "ShadowTax" "ABOVE" "[I") (by decide +kernel)) (hts (.initialized "ShadowTax") (by decide +kernel)) h1 (fun a ha => Nat.not_le.mpr ha)⟩
