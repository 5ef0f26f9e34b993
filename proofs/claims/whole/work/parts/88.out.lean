/-! the outer cells at the start -/
theorem vk_S.cg {N : Nat} {len : List Nat} {byt : List (List Int32)} {k v k' v' : Nat → Nat} {A : Nat → Prop} {U : State} {H : Heap} (hk : ∀ i, i < N → k' i = k i) (hv : ∀ i, i < N → v' i = v i) (h : vk_S N len byt k v A U H) : vk_S N len byt k' v' A U H :=
  ⟨fun i hi => by rw [hk i hi, hv i hi]; exact h.1 i hi, fun i j hi hj e => h.2 i j hi hj (by rw [← hk i hi, ← hk j hj]; exact e)⟩
theorem st_out {a : Array Value} {s : State} {b L : Nat} {xs : Nat → Int32} (h : z_giv s a) (hts : ∀ w ∈ lw_tbl, w.before a s = true) (hX : va_X b L xs s s.heap) (hbl : b < s.heap.size) : ∃ oa : Nat → Nat, oa 3 = b ∧ zNx oa s ∧ zOut s.heap.size oa (L, xs) s s.heap := by
  have hs := flat_of_before _ h
  have hA : ∀ q : Nat, q < s.heap.size → ¬ (s.heap.size ≤ q) := fun q hq => Nat.not_le.mpr hq
  obtain ⟨t0, p0, x0, z0⟩ := st_0 (X := (L, xs)) h hts
  obtain ⟨t1, p1, x1, z1⟩ := st_1 (X := (L, xs)) h hts
  obtain ⟨t2, p2, x2, z2⟩ := st_2 (X := (L, xs)) h hts
  obtain ⟨adK, adV, hS, hK⟩ := st_str h
  have cs := va_Zof (A := fun q => s.heap.size ≤ q) (hts (.laysStatic "java/lang/String" "COMPACT_STRINGS" "Z") (by decide +kernel)) (hts (.initialized "java/lang/String") (by decide +kernel)) (va_eqt (hs (Cond.eq (.static "java/lang/String" "COMPACT_STRINGS" "Z") (.int 1)) (by decide +kernel))) hA
  have si := va_Zqof (A := fun q => s.heap.size ≤ q) (hts (.laysStatic "jdk/internal/util/Preconditions" "SIOOBE_FORMATTER" "Ljava/util/function/BiFunction;") (by decide +kernel)) (hts (.initialized "jdk/internal/util/Preconditions") (by decide +kernel)) (hs (Cond.isRef (.static "jdk/internal/util/Preconditions" "SIOOBE_FORMATTER" "Ljava/util/function/BiFunction;")) (by decide +kernel)) hA
  obtain ⟨tq, hq⟩ : ∃ tq : Nat, va_Z "jdk/internal/util/Preconditions" "SIOOBE_FORMATTER" "Ljava/util/function/BiFunction;" .null (fun q => s.heap.size ≤ q) s s.heap ∨ va_Z "jdk/internal/util/Preconditions" "SIOOBE_FORMATTER" "Ljava/util/function/BiFunction;" (.ref tq) (fun q => s.heap.size ≤ q) s s.heap := by
    rcases si with q | ⟨t, q⟩
    · exact ⟨0, Or.inl q⟩
    · exact ⟨t, Or.inr q⟩
  refine ⟨fun j => if j = 0 then t0 else if j = 1 then t1 else if j = 2 then t2 else if j = 3 then b else if j = 99 then tq else if j < 30 then adK (j - 10) else adV (j - 30), rfl, ?_, ?_⟩
  · refine st_nx hts (fun i hi => ?_)
    have : (if 10 + i = 0 then t0 else if 10 + i = 1 then t1 else if 10 + i = 2 then t2 else if 10 + i = 3 then b else if 10 + i = 99 then tq else if 10 + i < 30 then adK (10 + i - 10) else adV (10 + i - 30)) = adK i := by
      rw [if_neg (by omega), if_neg (by omega), if_neg (by omega), if_neg (by omega), if_neg (by omega), if_pos (by omega), show 10 + i - 10 = i by omega]
    rw [this]
    exact hK i hi
  · refine ⟨fun j hj => ?_, z0, z1, z2, cs, hq, hS.cg (fun i hi => ?_) (fun i hi => ?_)⟩
    · match j, hj with
      | 0, _ => exact ⟨p0, x0⟩
      | 1, _ => exact ⟨p1, x1⟩
      | 2, _ => exact ⟨p2, x2⟩
      | 3, _ => exact ⟨hbl, hX⟩
    · dsimp only
      rw [if_neg (by omega), if_neg (by omega), if_neg (by omega), if_neg (by omega), if_neg (by omega), if_pos (by omega), show 10 + i - 10 = i by omega]
    · dsimp only
      rw [if_neg (by omega), if_neg (by omega), if_neg (by omega), if_neg (by omega), if_neg (by omega), if_neg (by omega), show 30 + i - 30 = i by omega]
