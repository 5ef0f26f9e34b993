/-! what the Statement gives of the start: static arrays -/
theorem va_Xs {args : Array Value} {s : State} {tm : Term} {N : Nat} {f : Nat → Int32} (hN : N < 2 ^ 31) (harr : (Cond.arrayOf tm .int).before args s = true) (hlen : (Term.length tm).eval args s none [] s = some (.int (Int32.ofNat N))) (hel : ∀ j : Nat, j < N → (Term.elem tm (.int (Int32.ofNat j))).eval args s none [] s = some (.int (f j))) : ∃ t : Nat, tm.eval args s none [] s = some (.ref t) ∧ t < s.heap.size ∧ va_X t N f s s.heap := by
  obtain ⟨t, ht, cell, h1, h2, h3, h4, h5, h6, -⟩ := va_Tof (f := fun j => .int (f j)) (A := fun _ => False) hN harr hlen hel (fun _ _ h => h)
  have hs : cell.slots.size < 2 ^ 31 := by
    by_cases hn : cell.slots.size < 2147483648
    · exact hn
    · exfalso
      simp only [Term.eval, Option.bind_eq_bind, ht, Option.bind_some] at hlen
      obtain ⟨cell2, hc2, h⟩ := Option.bind_eq_some_iff.mp hlen
      have e := (State.arrayAt?_spec hc2).1
      cases h1.symm.trans e
      rw [if_neg hn] at h
      cases h
  have e : cell.slots.size = N := by
    have h5 : nI cell.slots.size = nI N := h5
    exact (nI_eq hs hN).mp h5
  exact ⟨t, ht, (Array.getElem?_eq_some_iff.mp h1).1, cell, h1, h2, h3, e, h6⟩
