/-! String.length, charAt; the Reader's letters and words -/
theorem zu_zu (σ : zSg) (a k : Nat) (v w : Int32) : z_up (z_up σ a k v) a k w = z_up σ a k w := by
  funext x y
  unfold z_up
  by_cases h : x = a ∧ y = k <;> simp [h]
theorem z_sb_l : ∀ i, i < 12 → (z_sb.getD i []).length = z_sl.getD i 0 := by decide
theorem z_sb_c : ∀ i, i < 12 → ∀ j, j < 6 → (((z_sb.getD i []).getD j 0 &&& 255).toUInt32 % 65536).toInt32 = (z_sb.getD i []).getD j 0 ∧ ((z_sb.getD i []).getD j 0).toUInt32.toUInt16.toUInt32.toInt32 = (z_sb.getD i []).getD j 0 := by decide +kernel
theorem s_scoder {X : zXs} {d i : Nat} {L : List zSh} {μ : zMem} (hi : i < 12) : zF X d m_J0_coder_7d493 [.ref (1000010 + i)] L μ (some (.int 0)) μ := by
  refine zF.of mk_J0_coder_7d493 rfl ?_
  repeat first | refine zT.step ct_J0_coder_7d493_ok ?_ | refine And.intro ⟨by decide, _, rfl⟩ ?_ | refine And.intro ⟨by decide, rfl⟩ ?_
  refine And.intro (fun h => absurd h (by decide)) (fun _ => ?_)
  repeat first | refine zT.step ct_J0_coder_7d493_ok ?_ | refine And.intro ⟨by decide, _, rfl⟩ ?_ | refine And.intro ⟨by decide, rfl⟩ ?_
  refine Exists.intro i (And.intro ⟨hi, rfl⟩ ?_)
  repeat first | refine zT.step ct_J0_coder_7d493_ok ?_ | refine And.intro ⟨by decide, _, rfl⟩ ?_ | refine And.intro ⟨by decide, rfl⟩ ?_
  exact And.intro rfl (And.intro rfl (And.intro rfl rfl))
theorem s_slength {X : zXs} {d i : Nat} {L : List zSh} {μ : zMem} (hd : 1 ≤ d) (hi : i < 12) : zF X d m_J0_length_8abf5 [.ref (1000010 + i)] L μ (some (.int (nI (z_sl.getD i 0)))) μ := by
  have e : ∀ i, i < 12 → nI (z_sl.getD i 0) >>> ((0 : Int32) &&& 31) = nI (z_sl.getD i 0) := by decide +kernel
  refine zF.of mk_J0_length_8abf5 rfl ?_
  repeat first | refine zT.step ct_J0_length_8abf5_ok ?_ | refine And.intro ⟨by decide, _, rfl⟩ ?_ | refine And.intro ⟨by decide, rfl⟩ ?_
  refine Exists.intro i (And.intro ⟨hi, rfl⟩ ?_)
  repeat first | refine zT.step ct_J0_length_8abf5_ok ?_ | refine And.intro ⟨by decide, _, rfl⟩ ?_ | refine And.intro ⟨by decide, rfl⟩ ?_
  refine Exists.intro i (And.intro ⟨hi, rfl⟩ ?_)
  repeat first | refine zT.step ct_J0_length_8abf5_ok ?_ | refine And.intro ⟨by decide, _, rfl⟩ ?_ | refine And.intro ⟨by decide, rfl⟩ ?_
  refine And.intro ⟨hd, i, hi, rfl⟩ (zF.use (s_scoder hi) ?_)
  repeat first | refine zT.step ct_J0_length_8abf5_ok ?_ | refine And.intro ⟨by decide, _, rfl⟩ ?_ | refine And.intro ⟨by decide, rfl⟩ ?_
  exact And.intro (congrArg (fun v => some (Value.int v)) (e i hi)) (And.intro rfl rfl)
theorem s_slatin {X : zXs} {d i : Nat} {L : List zSh} {μ : zMem} (hi : i < 12) : zF X d m_J0_isLatin1_aae02 [.ref (1000010 + i)] L μ (some (.int 1)) μ := by
  refine zF.of mk_J0_isLatin1_aae02 rfl ?_
  repeat first | refine zT.step ct_J0_isLatin1_aae02_ok ?_ | refine And.intro ⟨by decide, _, rfl⟩ ?_ | refine And.intro ⟨by decide, rfl⟩ ?_
  refine And.intro (fun h => absurd h (by decide)) (fun _ => ?_)
  repeat first | refine zT.step ct_J0_isLatin1_aae02_ok ?_ | refine And.intro ⟨by decide, _, rfl⟩ ?_ | refine And.intro ⟨by decide, rfl⟩ ?_
  refine Exists.intro i (And.intro ⟨hi, rfl⟩ ?_)
  repeat first | refine zT.step ct_J0_isLatin1_aae02_ok ?_ | refine And.intro ⟨by decide, _, rfl⟩ ?_ | refine And.intro ⟨by decide, rfl⟩ ?_
  refine And.intro (fun _ => ?_) (fun h => absurd rfl h)
  repeat first | refine zT.step ct_J0_isLatin1_aae02_ok ?_ | refine And.intro ⟨by decide, _, rfl⟩ ?_ | refine And.intro ⟨by decide, rfl⟩ ?_
  exact And.intro rfl (And.intro rfl (And.intro rfl rfl))
theorem s_scheck3 {X : zXs} {d j n : Nat} {L : List zSh} {μ : zMem} {v : Value} (hv : v = .null ∨ v = .ref 1000099) (hj : j < n) (hn : n < 2 ^ 31) : zF X d m_J3_checkIndex_8e157 [.int (nI j), .int (nI n), v] L μ (some (.int (nI j))) μ := by
  rcases hv with rfl | rfl
  all_goals
    refine zF.of mk_J3_checkIndex_8e157 rfl ?_
    repeat first | refine zT.step ct_J3_checkIndex_8e157_ok ?_ | refine And.intro ⟨by decide, _, rfl⟩ ?_ | refine And.intro ⟨by decide, rfl⟩ ?_
    refine And.intro (fun h => absurd h (nI_pos (by omega))) (fun _ => ?_)
    repeat first | refine zT.step ct_J3_checkIndex_8e157_ok ?_ | refine And.intro ⟨by decide, _, rfl⟩ ?_ | refine And.intro ⟨by decide, rfl⟩ ?_
    refine And.intro (fun _ => ?_) (fun h => absurd (nI_lt hj hn) h)
    repeat first | refine zT.step ct_J3_checkIndex_8e157_ok ?_ | refine And.intro ⟨by decide, _, rfl⟩ ?_ | refine And.intro ⟨by decide, rfl⟩ ?_
    exact And.intro rfl (And.intro rfl rfl)
theorem s_scheck {X : zXs} {d j n : Nat} {L : List zSh} {μ : zMem} (hd : 1 ≤ d) (hj : j < n) (hn : n < 2 ^ 31) : zF X d m_J0_checkIndex_df160 [.int (nI j), .int (nI n)] L μ none μ := by
  refine zF.of mk_J0_checkIndex_df160 rfl ?_
  repeat first | refine zT.step ct_J0_checkIndex_df160_ok ?_ | refine And.intro ⟨by decide, _, rfl⟩ ?_ | refine And.intro ⟨by decide, rfl⟩ ?_
  refine And.intro ?_ ?_
  · repeat first | refine zT.step ct_J0_checkIndex_df160_ok ?_ | refine And.intro ⟨by decide, _, rfl⟩ ?_ | refine And.intro ⟨by decide, rfl⟩ ?_
    refine And.intro hd (zF.use (s_scheck3 (Or.inl rfl) hj hn) ?_)
    repeat first | refine zT.step ct_J0_checkIndex_df160_ok ?_ | refine And.intro ⟨by decide, _, rfl⟩ ?_ | refine And.intro ⟨by decide, rfl⟩ ?_
    exact And.intro rfl (And.intro rfl rfl)
  · repeat first | refine zT.step ct_J0_checkIndex_df160_ok ?_ | refine And.intro ⟨by decide, _, rfl⟩ ?_ | refine And.intro ⟨by decide, rfl⟩ ?_
    refine And.intro hd (zF.use (s_scheck3 (Or.inr rfl) hj hn) ?_)
    repeat first | refine zT.step ct_J0_checkIndex_df160_ok ?_ | refine And.intro ⟨by decide, _, rfl⟩ ?_ | refine And.intro ⟨by decide, rfl⟩ ?_
    exact And.intro rfl (And.intro rfl rfl)
theorem s_lcharAt {X : zXs} {d i j : Nat} {L : List zSh} {μ : zMem} (hd : 2 ≤ d) (hi : i < 12) (hj : j < z_sl.getD i 0) : zF X d m_J1_charAt_3b067 [.ref (1000030 + i), .int (nI j)] L μ (some (.int ((z_sb.getD i []).getD j 0))) μ := by
  have h6 := z_sl_b i hi
  have hc := z_sb_c i hi j (by omega)
  refine zF.of mk_J1_charAt_3b067 rfl ?_
  repeat first | refine zT.step ct_J1_charAt_3b067_ok ?_ | refine And.intro ⟨by decide, _, rfl⟩ ?_ | refine And.intro ⟨by decide, rfl⟩ ?_
  refine Exists.intro i (And.intro ⟨hi, rfl⟩ ?_)
  repeat first | refine zT.step ct_J1_charAt_3b067_ok ?_ | refine And.intro ⟨by decide, _, rfl⟩ ?_ | refine And.intro ⟨by decide, rfl⟩ ?_
  refine And.intro (by omega) (zF.use (s_scheck (by omega) hj (by omega)) ?_)
  repeat first | refine zT.step ct_J1_charAt_3b067_ok ?_ | refine And.intro ⟨by decide, _, rfl⟩ ?_ | refine And.intro ⟨by decide, rfl⟩ ?_
  refine Exists.intro i (Exists.intro j (And.intro ⟨hi, rfl, rfl, hj⟩ ?_))
  refine zT.step ct_J1_charAt_3b067_ok ?_
  refine zT.step ct_J1_charAt_3b067_ok ?_
  refine zT.step ct_J1_charAt_3b067_ok ?_
  show zT X d m_J1_charAt_3b067 _ 0 0 14 _ [.int (((z_sb.getD i []).getD j 0 &&& 255).toUInt32 % 65536).toInt32] _ _
  rw [hc.1]
  refine zT.step ct_J1_charAt_3b067_ok ?_
  exact And.intro (congrArg Value.int hc.2) (And.intro rfl (And.intro rfl rfl))
theorem s_scharAt {X : zXs} {d i j : Nat} {L : List zSh} {μ : zMem} (hd : 3 ≤ d) (hi : i < 12) (hj : j < z_sl.getD i 0) : zF X d m_J0_charAt_5068e [.ref (1000010 + i), .int (nI j)] L μ (some (.int ((z_sb.getD i []).getD j 0))) μ := by
  have h6 := z_sl_b i hi
  have hc := z_sb_c i hi j (by omega)
  refine zF.of mk_J0_charAt_5068e rfl ?_
  repeat first | refine zT.step ct_J0_charAt_5068e_ok ?_ | refine And.intro ⟨by decide, _, rfl⟩ ?_ | refine And.intro ⟨by decide, rfl⟩ ?_
  refine And.intro ⟨by omega, i, hi, rfl⟩ (zF.use (s_slatin hi) ?_)
  repeat first | refine zT.step ct_J0_charAt_5068e_ok ?_ | refine And.intro ⟨by decide, _, rfl⟩ ?_ | refine And.intro ⟨by decide, rfl⟩ ?_
  refine And.intro (fun h => absurd h (by decide)) (fun _ => ?_)
  repeat first | refine zT.step ct_J0_charAt_5068e_ok ?_ | refine And.intro ⟨by decide, _, rfl⟩ ?_ | refine And.intro ⟨by decide, rfl⟩ ?_
  refine Exists.intro i (And.intro ⟨hi, rfl⟩ ?_)
  repeat first | refine zT.step ct_J0_charAt_5068e_ok ?_ | refine And.intro ⟨by decide, _, rfl⟩ ?_ | refine And.intro ⟨by decide, rfl⟩ ?_
  refine And.intro (by omega) (zF.use (s_lcharAt (by omega) hi hj) ?_)
  repeat first | refine zT.step ct_J0_charAt_5068e_ok ?_ | refine And.intro ⟨by decide, _, rfl⟩ ?_ | refine And.intro ⟨by decide, rfl⟩ ?_
  exact And.intro (congrArg Value.int hc.2) (And.intro rfl (And.intro rfl rfl))
theorem s_isLetter {X : zXs} {d : Nat} {L : List zSh} {μ : zMem} {x : Int32} : zF X d m_X1_isLetter [.int x] L μ (some (.int (f_b (isL x)))) μ := by
  refine zF.of mk_X1_isLetter rfl ?_
  repeat first | refine zT.step ct_X1_isLetter_ok ?_ | refine And.intro ⟨by decide, _, rfl⟩ ?_ | refine And.intro ⟨by decide, rfl⟩ ?_
  refine And.intro (fun h => ?_) (fun h => ?_)
  · repeat first | refine zT.step ct_X1_isLetter_ok ?_ | refine And.intro ⟨by decide, _, rfl⟩ ?_ | refine And.intro ⟨by decide, rfl⟩ ?_
    have h : x < 97 := h
    exact And.intro rfl (And.intro (by rw [f_b_f (by unfold isL; exact decide_eq_false fun q => absurd q.1 (Int32.not_le.mpr h))]) (And.intro rfl rfl))
  · have h : ¬ x < 97 := h
    repeat first | refine zT.step ct_X1_isLetter_ok ?_ | refine And.intro ⟨by decide, _, rfl⟩ ?_ | refine And.intro ⟨by decide, rfl⟩ ?_
    refine And.intro (fun h2 => ?_) (fun h2 => ?_)
    · have h2 : 122 < x := h2
      repeat first | refine zT.step ct_X1_isLetter_ok ?_ | refine And.intro ⟨by decide, _, rfl⟩ ?_ | refine And.intro ⟨by decide, rfl⟩ ?_
      exact And.intro rfl (And.intro (by rw [f_b_f (by unfold isL; exact decide_eq_false fun q => absurd q.2 (Int32.not_le.mpr h2))]) (And.intro rfl rfl))
    · have h2 : ¬ 122 < x := h2
      repeat first | refine zT.step ct_X1_isLetter_ok ?_ | refine And.intro ⟨by decide, _, rfl⟩ ?_ | refine And.intro ⟨by decide, rfl⟩ ?_
      exact And.intro rfl (And.intro (by rw [f_b_t (by unfold isL; exact decide_eq_true ⟨Int32.not_lt.mp h, Int32.not_lt.mp h2⟩)]) (And.intro rfl rfl))
theorem s_isDigit {X : zXs} {d : Nat} {L : List zSh} {μ : zMem} {x : Int32} : zF X d m_X1_isDigit [.int x] L μ (some (.int (f_b (isD x)))) μ := by
  refine zF.of mk_X1_isDigit rfl ?_
  repeat first | refine zT.step ct_X1_isDigit_ok ?_ | refine And.intro ⟨by decide, _, rfl⟩ ?_ | refine And.intro ⟨by decide, rfl⟩ ?_
  refine And.intro (fun h => ?_) (fun h => ?_)
  · repeat first | refine zT.step ct_X1_isDigit_ok ?_ | refine And.intro ⟨by decide, _, rfl⟩ ?_ | refine And.intro ⟨by decide, rfl⟩ ?_
    have h : x < 48 := h
    exact And.intro rfl (And.intro (by rw [f_b_f (by unfold isD; exact decide_eq_false fun q => absurd q.1 (Int32.not_le.mpr h))]) (And.intro rfl rfl))
  · have h : ¬ x < 48 := h
    repeat first | refine zT.step ct_X1_isDigit_ok ?_ | refine And.intro ⟨by decide, _, rfl⟩ ?_ | refine And.intro ⟨by decide, rfl⟩ ?_
    refine And.intro (fun h2 => ?_) (fun h2 => ?_)
    · have h2 : 57 < x := h2
      repeat first | refine zT.step ct_X1_isDigit_ok ?_ | refine And.intro ⟨by decide, _, rfl⟩ ?_ | refine And.intro ⟨by decide, rfl⟩ ?_
      exact And.intro rfl (And.intro (by rw [f_b_f (by unfold isD; exact decide_eq_false fun q => absurd q.2 (Int32.not_le.mpr h2))]) (And.intro rfl rfl))
    · have h2 : ¬ 57 < x := h2
      repeat first | refine zT.step ct_X1_isDigit_ok ?_ | refine And.intro ⟨by decide, _, rfl⟩ ?_ | refine And.intro ⟨by decide, rfl⟩ ?_
      exact And.intro rfl (And.intro (by rw [f_b_t (by unfold isD; exact decide_eq_true ⟨Int32.not_lt.mp h, Int32.not_lt.mp h2⟩)]) (And.intro rfl rfl))
theorem s_signOf {X : zXs} {d : Nat} {L : List zSh} {μ : zMem} {x : Int32} : zF X d m_X1_signOf [.int x] L μ (some (.int (lx_sg x))) μ := by
  refine zF.of mk_X1_signOf rfl ?_
  refine zT.step ct_X1_signOf_ok ?_
  refine zT.step ct_X1_signOf_ok ?_
  by_cases h1 : x = 40
  · refine z_tin (K := fun t => zT _ _ _ _ _ _ t _ _ _ _) h1 0 104 rfl rfl ?_
    repeat first | refine zT.step ct_X1_signOf_ok ?_ | refine And.intro ⟨by decide, _, rfl⟩ ?_ | refine And.intro ⟨by decide, rfl⟩ ?_
    exact And.intro (by simp [lx_sg, h1]) (And.intro rfl rfl)
  by_cases h2 : x = 41
  · refine z_tin (K := fun t => zT _ _ _ _ _ _ t _ _ _ _) h2 1 107 rfl rfl ?_
    repeat first | refine zT.step ct_X1_signOf_ok ?_ | refine And.intro ⟨by decide, _, rfl⟩ ?_ | refine And.intro ⟨by decide, rfl⟩ ?_
    exact And.intro (by simp [lx_sg, h2]) (And.intro rfl rfl)
  by_cases h3 : x = 59
  · refine z_tin (K := fun t => zT _ _ _ _ _ _ t _ _ _ _) h3 19 110 rfl rfl ?_
    repeat first | refine zT.step ct_X1_signOf_ok ?_ | refine And.intro ⟨by decide, _, rfl⟩ ?_ | refine And.intro ⟨by decide, rfl⟩ ?_
    exact And.intro (by simp [lx_sg, h3]) (And.intro rfl rfl)
  by_cases h4 : x = 43
  · refine z_tin (K := fun t => zT _ _ _ _ _ _ t _ _ _ _) h4 3 113 rfl rfl ?_
    repeat first | refine zT.step ct_X1_signOf_ok ?_ | refine And.intro ⟨by decide, _, rfl⟩ ?_ | refine And.intro ⟨by decide, rfl⟩ ?_
    exact And.intro (by simp [lx_sg, h4]) (And.intro rfl rfl)
  by_cases h5 : x = 45
  · refine z_tin (K := fun t => zT _ _ _ _ _ _ t _ _ _ _) h5 5 116 rfl rfl ?_
    repeat first | refine zT.step ct_X1_signOf_ok ?_ | refine And.intro ⟨by decide, _, rfl⟩ ?_ | refine And.intro ⟨by decide, rfl⟩ ?_
    exact And.intro (by simp [lx_sg, h5]) (And.intro rfl rfl)
  by_cases h6 : x = 42
  · refine z_tin (K := fun t => zT _ _ _ _ _ _ t _ _ _ _) h6 2 119 rfl rfl ?_
    repeat first | refine zT.step ct_X1_signOf_ok ?_ | refine And.intro ⟨by decide, _, rfl⟩ ?_ | refine And.intro ⟨by decide, rfl⟩ ?_
    exact And.intro (by simp [lx_sg, h6]) (And.intro rfl rfl)
  by_cases h7 : x = 60
  · refine z_tin (K := fun t => zT _ _ _ _ _ _ t _ _ _ _) h7 20 122 rfl rfl ?_
    repeat first | refine zT.step ct_X1_signOf_ok ?_ | refine And.intro ⟨by decide, _, rfl⟩ ?_ | refine And.intro ⟨by decide, rfl⟩ ?_
    exact And.intro (by simp [lx_sg, h7]) (And.intro rfl rfl)
  by_cases h8 : x = 61
  · refine z_tin (K := fun t => zT _ _ _ _ _ _ t _ _ _ _) h8 21 125 rfl rfl ?_
    repeat first | refine zT.step ct_X1_signOf_ok ?_ | refine And.intro ⟨by decide, _, rfl⟩ ?_ | refine And.intro ⟨by decide, rfl⟩ ?_
    exact And.intro (by simp [lx_sg, h8]) (And.intro rfl rfl)
  have other : zT X d m_X1_signOf (fun w L2 μ2 => w = some (.int (lx_sg x)) ∧ L2 = L ∧ μ2 = μ) 0 0 128 [some (.int x)] [] L μ := by
    repeat first | refine zT.step ct_X1_signOf_ok ?_ | refine And.intro ⟨by decide, _, rfl⟩ ?_ | refine And.intro ⟨by decide, rfl⟩ ?_
    exact And.intro (by simp [lx_sg, h1, h2, h3, h4, h5, h6, h7, h8]) (And.intro rfl rfl)
  refine And.intro (fun _ => other) (fun j t hx ht => ?_)
  have e : x = Int32.ofInt (40 + (j : Int)) := by rw [← hx, Int32.ofInt_toInt]
  have hj : j < 22 := (List.getElem?_eq_some_iff.mp ht).1
  match j, hj, e, ht with
  | 0, _, e, _ => exact absurd e h1
  | 1, _, e, _ => exact absurd e h2
  | 2, _, e, _ => exact absurd e h6
  | 3, _, e, _ => exact absurd e h4
  | 4, _, _, ht => cases ht; exact other
  | 5, _, e, _ => exact absurd e h5
  | 6, _, _, ht => cases ht; exact other
  | 7, _, _, ht => cases ht; exact other
  | 8, _, _, ht => cases ht; exact other
  | 9, _, _, ht => cases ht; exact other
  | 10, _, _, ht => cases ht; exact other
  | 11, _, _, ht => cases ht; exact other
  | 12, _, _, ht => cases ht; exact other
  | 13, _, _, ht => cases ht; exact other
  | 14, _, _, ht => cases ht; exact other
  | 15, _, _, ht => cases ht; exact other
  | 16, _, _, ht => cases ht; exact other
  | 17, _, _, ht => cases ht; exact other
  | 18, _, _, ht => cases ht; exact other
  | 19, _, e, _ => exact absurd e h3
  | 20, _, e, _ => exact absurd e h7
  | 21, _, e, _ => exact absurd e h8
theorem z_ne7 {x : Int32} (h1 : ¬ x = -17) (h2 : ¬ x = -16) (h3 : ¬ x = -15) (h4 : ¬ x = -14) (h5 : ¬ x = -13) (h6 : ¬ x = -12) (h7 : ¬ x = -11) : ∀ j : Nat, j < 7 → ¬ x.toInt = -17 + (j : Int) := by
  intro j hj hx
  have e : x = Int32.ofInt (-17 + (j : Int)) := by rw [← hx, Int32.ofInt_toInt]
  match j, hj with
  | 0, _ => exact h1 e
  | 1, _ => exact h2 e
  | 2, _ => exact h3 e
  | 3, _ => exact h4 e
  | 4, _ => exact h5 e
  | 5, _ => exact h6 e
  | 6, _ => exact h7 e
theorem s_levelOf {X : zXs} {d : Nat} {L : List zSh} {μ : zMem} {x : Int32} : zF X d m_X1_levelOf [.int x] L μ (some (.int (pr_lev x))) μ := by
  refine zF.of mk_X1_levelOf rfl ?_
  refine zT.step ct_X1_levelOf_ok ?_
  refine zT.step ct_X1_levelOf_ok ?_
  by_cases h1 : x = -17
  · refine z_tin (K := fun t => zT _ _ _ _ _ _ t _ _ _ _) h1 0 52 rfl rfl ?_
    repeat first | refine zT.step ct_X1_levelOf_ok ?_ | refine And.intro ⟨by decide, _, rfl⟩ ?_ | refine And.intro ⟨by decide, rfl⟩ ?_
    exact And.intro (by simp [pr_lev, h1]) (And.intro rfl rfl)
  by_cases h2 : x = -16
  · refine z_tin (K := fun t => zT _ _ _ _ _ _ t _ _ _ _) h2 1 50 rfl rfl ?_
    repeat first | refine zT.step ct_X1_levelOf_ok ?_ | refine And.intro ⟨by decide, _, rfl⟩ ?_ | refine And.intro ⟨by decide, rfl⟩ ?_
    exact And.intro (by simp [pr_lev, h2]) (And.intro rfl rfl)
  by_cases h3 : x = -15
  · refine z_tin (K := fun t => zT _ _ _ _ _ _ t _ _ _ _) h3 2 50 rfl rfl ?_
    repeat first | refine zT.step ct_X1_levelOf_ok ?_ | refine And.intro ⟨by decide, _, rfl⟩ ?_ | refine And.intro ⟨by decide, rfl⟩ ?_
    exact And.intro (by simp [pr_lev, h3]) (And.intro rfl rfl)
  by_cases h4 : x = -14
  · refine z_tin (K := fun t => zT _ _ _ _ _ _ t _ _ _ _) h4 3 48 rfl rfl ?_
    repeat first | refine zT.step ct_X1_levelOf_ok ?_ | refine And.intro ⟨by decide, _, rfl⟩ ?_ | refine And.intro ⟨by decide, rfl⟩ ?_
    exact And.intro (by simp [pr_lev, h4]) (And.intro rfl rfl)
  by_cases h5 : x = -13
  · refine z_tin (K := fun t => zT _ _ _ _ _ _ t _ _ _ _) h5 4 48 rfl rfl ?_
    repeat first | refine zT.step ct_X1_levelOf_ok ?_ | refine And.intro ⟨by decide, _, rfl⟩ ?_ | refine And.intro ⟨by decide, rfl⟩ ?_
    exact And.intro (by simp [pr_lev, h5]) (And.intro rfl rfl)
  by_cases h6 : x = -12
  · refine z_tin (K := fun t => zT _ _ _ _ _ _ t _ _ _ _) h6 5 46 rfl rfl ?_
    repeat first | refine zT.step ct_X1_levelOf_ok ?_ | refine And.intro ⟨by decide, _, rfl⟩ ?_ | refine And.intro ⟨by decide, rfl⟩ ?_
    exact And.intro (by simp [pr_lev, h6]) (And.intro rfl rfl)
  by_cases h7 : x = -11
  · refine z_tin (K := fun t => zT _ _ _ _ _ _ t _ _ _ _) h7 6 44 rfl rfl ?_
    repeat first | refine zT.step ct_X1_levelOf_ok ?_ | refine And.intro ⟨by decide, _, rfl⟩ ?_ | refine And.intro ⟨by decide, rfl⟩ ?_
    exact And.intro (by simp [pr_lev, h7]) (And.intro rfl rfl)
  refine z_tout (K := fun t => zT _ _ _ _ _ _ t _ _ _ _) (z_ne7 h1 h2 h3 h4 h5 h6 h7) ?_
  repeat first | refine zT.step ct_X1_levelOf_ok ?_ | refine And.intro ⟨by decide, _, rfl⟩ ?_ | refine And.intro ⟨by decide, rfl⟩ ?_
  exact And.intro (by simp [pr_lev, h1, h2, h3, h4, h5, h6, h7]) (And.intro rfl rfl)
theorem drop_getD (c : List Int32) (j : Nat) (h : j < c.length) : c.drop j = c.getD j 0 :: c.drop (j + 1) := by
  rw [List.drop_eq_getElem_cons h, List.getD_eq_getElem?_getD, List.getElem?_eq_getElem h]
  rfl
theorem s_isWord {X : zXs} {d i b e : Nat} {σ : zSg} {τ : Nat → Nat → Int64} {r : Option Nat} (hd : 4 ≤ d) (hi : i < 12) (hb : σ 34 3 = nI b) (he : σ 34 2 = nI e) (hbe : b ≤ e) (he2 : e ≤ 160) : zF X d m_X1_isWord [.ref 34, .ref (1000010 + i)] L0 (mm σ τ r) (some (.int (f_b (lx_is (σ 35) i b e)))) (mm σ τ r) := by
  have h6 := z_sl_b i hi
  have hl := z_sb_l i hi
  have lp : e - b = z_sl.getD i 0 → ∀ (m j : Nat), j + m = z_sl.getD i 0 → zT X d m_X1_isWord (fun w L2 μ2 => w = some (.int (f_b (lx_eq (σ 35) ((z_sb.getD i []).drop j) (b + j)))) ∧ L2 = L0 ∧ μ2 = mm σ τ r) 0 0 20 [some (.ref 34), some (.ref (1000010 + i)), some (.int (nI j))] [] L0 (mm σ τ r) := by
    intro hbl m
    induction m with
    | zero =>
      intro j hj
      repeat first | refine zT.step ct_X1_isWord_ok ?_ | refine And.intro ⟨by decide, _, rfl⟩ ?_ | refine And.intro ⟨by decide, rfl⟩ ?_
      refine And.intro ⟨by omega, i, hi, rfl⟩ (zF.use (s_slength (by omega) hi) ?_)
      repeat first | refine zT.step ct_X1_isWord_ok ?_ | refine And.intro ⟨by decide, _, rfl⟩ ?_ | refine And.intro ⟨by decide, rfl⟩ ?_
      refine And.intro (fun h => ?_) (fun h => ?_)
      · repeat first | refine zT.step ct_X1_isWord_ok ?_ | refine And.intro ⟨by decide, _, rfl⟩ ?_ | refine And.intro ⟨by decide, rfl⟩ ?_
        refine And.intro rfl (And.intro ?_ (And.intro rfl rfl))
        rw [List.drop_eq_nil_of_le (by omega)]
        rfl
      · exact absurd (nI_le (show z_sl.getD i 0 ≤ j by omega) (by omega)) h
    | succ m ih =>
      intro j hj
      have hdr : (z_sb.getD i []).drop j = (z_sb.getD i []).getD j 0 :: (z_sb.getD i []).drop (j + 1) := drop_getD _ _ (by omega)
      rw [hdr]
      repeat first | refine zT.step ct_X1_isWord_ok ?_ | refine And.intro ⟨by decide, _, rfl⟩ ?_ | refine And.intro ⟨by decide, rfl⟩ ?_
      refine And.intro ⟨by omega, i, hi, rfl⟩ (zF.use (s_slength (by omega) hi) ?_)
      repeat first | refine zT.step ct_X1_isWord_ok ?_ | refine And.intro ⟨by decide, _, rfl⟩ ?_ | refine And.intro ⟨by decide, rfl⟩ ?_
      refine And.intro (fun h => absurd h (nI_ge (show j < z_sl.getD i 0 by omega) (by omega))) (fun h => ?_)
      repeat first | refine zT.step ct_X1_isWord_ok ?_ | refine And.intro ⟨by decide, _, rfl⟩ ?_ | refine And.intro ⟨by decide, rfl⟩ ?_
      refine And.intro ⟨by omega, i, hi, rfl⟩ (zF.use (s_scharAt (by omega) hi (by omega)) ?_)
      repeat first | refine zT.step ct_X1_isWord_ok ?_ | refine And.intro ⟨by decide, _, rfl⟩ ?_ | refine And.intro ⟨by decide, rfl⟩ ?_
      refine Exists.intro (b + j) (And.intro ⟨?_, by decide, 160, rfl, by omega, by decide⟩ ?_)
      · show σ 34 3 + nI j = _
        rw [hb, nI_add]
      repeat first | refine zT.step ct_X1_isWord_ok ?_ | refine And.intro ⟨by decide, _, rfl⟩ ?_ | refine And.intro ⟨by decide, rfl⟩ ?_
      refine And.intro (fun h => ?_) (fun h => ?_)
      · have h : (z_sb.getD i []).getD j 0 = σ 35 (b + j) := h
        refine zT.step ct_X1_isWord_ok ?_
        refine zT.step ct_X1_isWord_ok ?_
        show zT X d m_X1_isWord _ 0 0 20 [some (.ref 34), some (.ref (1000010 + i)), some (.int (nI j + 1))] [] L0 _
        rw [nI_1]
        have := ih (j + 1) (by omega)
        have e2 : lx_eq (σ 35) ((z_sb.getD i []).getD j 0 :: (z_sb.getD i []).drop (j + 1)) (b + j) = lx_eq (σ 35) ((z_sb.getD i []).drop (j + 1)) (b + (j + 1)) := by
          show (decide _ && _) = _
          rw [decide_eq_true h, Bool.true_and]
          rfl
        rw [e2]
        exact this
      · have h : ¬ (z_sb.getD i []).getD j 0 = σ 35 (b + j) := h
        repeat first | refine zT.step ct_X1_isWord_ok ?_ | refine And.intro ⟨by decide, _, rfl⟩ ?_ | refine And.intro ⟨by decide, rfl⟩ ?_
        refine And.intro rfl (And.intro ?_ (And.intro rfl rfl))
        show _ = some (Value.int (f_b (decide _ && _)))
        rw [decide_eq_false h, Bool.false_and]
        rfl
  refine zF.of mk_X1_isWord rfl ?_
  repeat first | refine zT.step ct_X1_isWord_ok ?_ | refine And.intro ⟨by decide, _, rfl⟩ ?_ | refine And.intro ⟨by decide, rfl⟩ ?_
  refine And.intro ⟨by omega, i, hi, rfl⟩ (zF.use (s_slength (by omega) hi) ?_)
  repeat first | refine zT.step ct_X1_isWord_ok ?_ | refine And.intro ⟨by decide, _, rfl⟩ ?_ | refine And.intro ⟨by decide, rfl⟩ ?_
  have hsub : σ 34 2 - σ 34 3 = nI (e - b) := by rw [hb, he, nI_sub hbe]
  refine And.intro (fun h => ?_) (fun h => ?_)
  · have h : nI (z_sl.getD i 0) = σ 34 2 - σ 34 3 := h
    rw [hsub] at h
    have h : z_sl.getD i 0 = e - b := (nI_eq (by omega) (by omega)).mp h
    have := lp h.symm (z_sl.getD i 0) 0 (by omega)
    refine zT.step ct_X1_isWord_ok ?_
    refine zT.step ct_X1_isWord_ok ?_
    unfold lx_is
    rw [decide_eq_true h.symm, Bool.true_and]
    exact this
  · have h : ¬ nI (z_sl.getD i 0) = σ 34 2 - σ 34 3 := h
    rw [hsub] at h
    have h : ¬ e - b = z_sl.getD i 0 := fun q => h (by rw [q])
    repeat first | refine zT.step ct_X1_isWord_ok ?_ | refine And.intro ⟨by decide, _, rfl⟩ ?_ | refine And.intro ⟨by decide, rfl⟩ ?_
    refine And.intro rfl (And.intro ?_ (And.intro rfl rfl))
    unfold lx_is
    rw [decide_eq_false h, Bool.false_and]
    rfl
