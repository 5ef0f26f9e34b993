/-! Reader.readWord, readNumber, advance -/
theorem zu_34 (σ : zSg) (k : Nat) (v : Int32) (c : Nat) (h : c ≠ 34) : z_up σ 34 k v c = σ c := zu_n _ _ _ _ _ h
theorem zu_k (σ : zSg) (a k : Nat) (v : Int32) (j : Nat) (h : j ≠ k) : z_up σ a k v a j = σ a j := z_up_n _ _ _ _ _ _ (fun q => h q.2)
theorem mm_up (σ : zSg) (τ : Nat → Nat → Int64) (r : Option Nat) (a k : Nat) (v : Int32) : (mm (z_up σ a k v) τ r).1 a k = v := z_up_s _ _ _ _
theorem i_add1 {x : Int32} {p : Nat} (h : x = nI p) : x + 1 = nI (p + 1) := by rw [h, nI_1]
theorem s_readWord {X : zXs} {d b sz : Nat} {σ : zSg} {τ : Nat → Nat → Int64} {r : Option Nat} (hd : 5 ≤ d) (h0 : σ 34 0 = nI sz) (hs : sz ≤ 160) (h3 : σ 34 3 = nI b) (h2 : σ 34 2 = nI b) (hb : b ≤ sz) : zF X d m_X1_readWord [.ref 34] L0 (mm σ τ r) (some (.int (lx_wd (σ 35) b (lx_w isL (σ 35) (sz - b) b)))) (mm (z_up σ 34 2 (nI (lx_w isL (σ 35) (sz - b) b))) τ r) := by
  have rest : ∀ e, e ≤ sz → b ≤ e → zT X d m_X1_readWord (fun w L2 μ2 => w = some (.int (lx_wd (σ 35) b e)) ∧ L2 = L0 ∧ μ2 = mm (z_up σ 34 2 (nI e)) τ r) 0 0 39 [some (.ref 34)] [] L0 (mm (z_up σ 34 2 (nI e)) τ r) := by
    intro e he hbe
    have w : ∀ i, i < 12 → zF X (d - 1) m_X1_isWord [.ref 34, .ref (1000010 + i)] L0 (mm (z_up σ 34 2 (nI e)) τ r) (some (.int (f_b (lx_is (σ 35) i b e)))) (mm (z_up σ 34 2 (nI e)) τ r) := by
      intro i hi
      have := s_isWord (X := X) (d := d - 1) (τ := τ) (r := r) (σ := z_up σ 34 2 (nI e)) (i := i) (b := b) (e := e) (by omega) hi (by rw [zu_k _ _ _ _ _ (by decide)]; exact h3) (z_up_s _ _ _ _) hbe (by omega)
      rw [zu_34 _ _ _ _ (by decide)] at this
      exact this
    repeat first | refine zT.step ct_X1_readWord_ok ?_ | refine And.intro ⟨by decide, _, rfl⟩ ?_ | refine And.intro ⟨by decide, rfl⟩ ?_
    refine And.intro ⟨by omega, by decide, _, rfl⟩ (zF.use (w 0 (by decide)) ?_)
    repeat first | refine zT.step ct_X1_readWord_ok ?_ | refine And.intro ⟨by decide, _, rfl⟩ ?_ | refine And.intro ⟨by decide, rfl⟩ ?_
    refine And.intro (fun q => ?_) (fun q => ?_)
    have h0 := fb0 q
    case refine_2 =>
      repeat first | refine zT.step ct_X1_readWord_ok ?_ | refine And.intro ⟨by decide, _, rfl⟩ ?_ | refine And.intro ⟨by decide, rfl⟩ ?_
      exact And.intro (by unfold lx_wd; rw [fb1 q]; rfl) (And.intro rfl rfl)
    repeat first | refine zT.step ct_X1_readWord_ok ?_ | refine And.intro ⟨by decide, _, rfl⟩ ?_ | refine And.intro ⟨by decide, rfl⟩ ?_
    refine And.intro ⟨by omega, by decide, _, rfl⟩ (zF.use (w 1 (by decide)) ?_)
    repeat first | refine zT.step ct_X1_readWord_ok ?_ | refine And.intro ⟨by decide, _, rfl⟩ ?_ | refine And.intro ⟨by decide, rfl⟩ ?_
    refine And.intro (fun q => ?_) (fun q => ?_)
    have h1 := fb0 q
    case refine_2 =>
      repeat first | refine zT.step ct_X1_readWord_ok ?_ | refine And.intro ⟨by decide, _, rfl⟩ ?_ | refine And.intro ⟨by decide, rfl⟩ ?_
      exact And.intro (by unfold lx_wd; rw [h0, fb1 q]; rfl) (And.intro rfl rfl)
    repeat first | refine zT.step ct_X1_readWord_ok ?_ | refine And.intro ⟨by decide, _, rfl⟩ ?_ | refine And.intro ⟨by decide, rfl⟩ ?_
    refine And.intro ⟨by omega, by decide, _, rfl⟩ (zF.use (w 2 (by decide)) ?_)
    repeat first | refine zT.step ct_X1_readWord_ok ?_ | refine And.intro ⟨by decide, _, rfl⟩ ?_ | refine And.intro ⟨by decide, rfl⟩ ?_
    refine And.intro (fun q => ?_) (fun q => ?_)
    have h2 := fb0 q
    case refine_2 =>
      repeat first | refine zT.step ct_X1_readWord_ok ?_ | refine And.intro ⟨by decide, _, rfl⟩ ?_ | refine And.intro ⟨by decide, rfl⟩ ?_
      exact And.intro (by unfold lx_wd; rw [h0, h1, fb1 q]; rfl) (And.intro rfl rfl)
    repeat first | refine zT.step ct_X1_readWord_ok ?_ | refine And.intro ⟨by decide, _, rfl⟩ ?_ | refine And.intro ⟨by decide, rfl⟩ ?_
    refine And.intro ⟨by omega, by decide, _, rfl⟩ (zF.use (w 3 (by decide)) ?_)
    repeat first | refine zT.step ct_X1_readWord_ok ?_ | refine And.intro ⟨by decide, _, rfl⟩ ?_ | refine And.intro ⟨by decide, rfl⟩ ?_
    refine And.intro (fun q => ?_) (fun q => ?_)
    have h3 := fb0 q
    case refine_2 =>
      repeat first | refine zT.step ct_X1_readWord_ok ?_ | refine And.intro ⟨by decide, _, rfl⟩ ?_ | refine And.intro ⟨by decide, rfl⟩ ?_
      exact And.intro (by unfold lx_wd; rw [h0, h1, h2, fb1 q]; rfl) (And.intro rfl rfl)
    repeat first | refine zT.step ct_X1_readWord_ok ?_ | refine And.intro ⟨by decide, _, rfl⟩ ?_ | refine And.intro ⟨by decide, rfl⟩ ?_
    refine And.intro ⟨by omega, by decide, _, rfl⟩ (zF.use (w 4 (by decide)) ?_)
    repeat first | refine zT.step ct_X1_readWord_ok ?_ | refine And.intro ⟨by decide, _, rfl⟩ ?_ | refine And.intro ⟨by decide, rfl⟩ ?_
    refine And.intro (fun q => ?_) (fun q => ?_)
    have h4 := fb0 q
    case refine_2 =>
      repeat first | refine zT.step ct_X1_readWord_ok ?_ | refine And.intro ⟨by decide, _, rfl⟩ ?_ | refine And.intro ⟨by decide, rfl⟩ ?_
      exact And.intro (by unfold lx_wd; rw [h0, h1, h2, h3, fb1 q]; rfl) (And.intro rfl rfl)
    repeat first | refine zT.step ct_X1_readWord_ok ?_ | refine And.intro ⟨by decide, _, rfl⟩ ?_ | refine And.intro ⟨by decide, rfl⟩ ?_
    refine And.intro ⟨by omega, by decide, _, rfl⟩ (zF.use (w 5 (by decide)) ?_)
    repeat first | refine zT.step ct_X1_readWord_ok ?_ | refine And.intro ⟨by decide, _, rfl⟩ ?_ | refine And.intro ⟨by decide, rfl⟩ ?_
    refine And.intro (fun q => ?_) (fun q => ?_)
    have h5 := fb0 q
    case refine_2 =>
      repeat first | refine zT.step ct_X1_readWord_ok ?_ | refine And.intro ⟨by decide, _, rfl⟩ ?_ | refine And.intro ⟨by decide, rfl⟩ ?_
      exact And.intro (by unfold lx_wd; rw [h0, h1, h2, h3, h4, fb1 q]; rfl) (And.intro rfl rfl)
    repeat first | refine zT.step ct_X1_readWord_ok ?_ | refine And.intro ⟨by decide, _, rfl⟩ ?_ | refine And.intro ⟨by decide, rfl⟩ ?_
    refine And.intro ⟨by omega, by decide, _, rfl⟩ (zF.use (w 6 (by decide)) ?_)
    repeat first | refine zT.step ct_X1_readWord_ok ?_ | refine And.intro ⟨by decide, _, rfl⟩ ?_ | refine And.intro ⟨by decide, rfl⟩ ?_
    refine And.intro (fun q => ?_) (fun q => ?_)
    have h6 := fb0 q
    case refine_2 =>
      repeat first | refine zT.step ct_X1_readWord_ok ?_ | refine And.intro ⟨by decide, _, rfl⟩ ?_ | refine And.intro ⟨by decide, rfl⟩ ?_
      exact And.intro (by unfold lx_wd; rw [h0, h1, h2, h3, h4, h5, fb1 q]; rfl) (And.intro rfl rfl)
    repeat first | refine zT.step ct_X1_readWord_ok ?_ | refine And.intro ⟨by decide, _, rfl⟩ ?_ | refine And.intro ⟨by decide, rfl⟩ ?_
    refine And.intro ⟨by omega, by decide, _, rfl⟩ (zF.use (w 7 (by decide)) ?_)
    repeat first | refine zT.step ct_X1_readWord_ok ?_ | refine And.intro ⟨by decide, _, rfl⟩ ?_ | refine And.intro ⟨by decide, rfl⟩ ?_
    refine And.intro (fun q => ?_) (fun q => ?_)
    have h7 := fb0 q
    case refine_2 =>
      repeat first | refine zT.step ct_X1_readWord_ok ?_ | refine And.intro ⟨by decide, _, rfl⟩ ?_ | refine And.intro ⟨by decide, rfl⟩ ?_
      exact And.intro (by unfold lx_wd; rw [h0, h1, h2, h3, h4, h5, h6, fb1 q]; rfl) (And.intro rfl rfl)
    repeat first | refine zT.step ct_X1_readWord_ok ?_ | refine And.intro ⟨by decide, _, rfl⟩ ?_ | refine And.intro ⟨by decide, rfl⟩ ?_
    refine And.intro ⟨by omega, by decide, _, rfl⟩ (zF.use (w 8 (by decide)) ?_)
    repeat first | refine zT.step ct_X1_readWord_ok ?_ | refine And.intro ⟨by decide, _, rfl⟩ ?_ | refine And.intro ⟨by decide, rfl⟩ ?_
    refine And.intro (fun q => ?_) (fun q => ?_)
    have h8 := fb0 q
    case refine_2 =>
      repeat first | refine zT.step ct_X1_readWord_ok ?_ | refine And.intro ⟨by decide, _, rfl⟩ ?_ | refine And.intro ⟨by decide, rfl⟩ ?_
      exact And.intro (by unfold lx_wd; rw [h0, h1, h2, h3, h4, h5, h6, h7, fb1 q]; rfl) (And.intro rfl rfl)
    repeat first | refine zT.step ct_X1_readWord_ok ?_ | refine And.intro ⟨by decide, _, rfl⟩ ?_ | refine And.intro ⟨by decide, rfl⟩ ?_
    refine And.intro ⟨by omega, by decide, _, rfl⟩ (zF.use (w 9 (by decide)) ?_)
    repeat first | refine zT.step ct_X1_readWord_ok ?_ | refine And.intro ⟨by decide, _, rfl⟩ ?_ | refine And.intro ⟨by decide, rfl⟩ ?_
    refine And.intro (fun q => ?_) (fun q => ?_)
    have h9 := fb0 q
    case refine_2 =>
      repeat first | refine zT.step ct_X1_readWord_ok ?_ | refine And.intro ⟨by decide, _, rfl⟩ ?_ | refine And.intro ⟨by decide, rfl⟩ ?_
      exact And.intro (by unfold lx_wd; rw [h0, h1, h2, h3, h4, h5, h6, h7, h8, fb1 q]; rfl) (And.intro rfl rfl)
    repeat first | refine zT.step ct_X1_readWord_ok ?_ | refine And.intro ⟨by decide, _, rfl⟩ ?_ | refine And.intro ⟨by decide, rfl⟩ ?_
    refine And.intro ⟨by omega, by decide, _, rfl⟩ (zF.use (w 10 (by decide)) ?_)
    repeat first | refine zT.step ct_X1_readWord_ok ?_ | refine And.intro ⟨by decide, _, rfl⟩ ?_ | refine And.intro ⟨by decide, rfl⟩ ?_
    refine And.intro (fun q => ?_) (fun q => ?_)
    have h10 := fb0 q
    case refine_2 =>
      repeat first | refine zT.step ct_X1_readWord_ok ?_ | refine And.intro ⟨by decide, _, rfl⟩ ?_ | refine And.intro ⟨by decide, rfl⟩ ?_
      exact And.intro (by unfold lx_wd; rw [h0, h1, h2, h3, h4, h5, h6, h7, h8, h9, fb1 q]; rfl) (And.intro rfl rfl)
    repeat first | refine zT.step ct_X1_readWord_ok ?_ | refine And.intro ⟨by decide, _, rfl⟩ ?_ | refine And.intro ⟨by decide, rfl⟩ ?_
    refine And.intro ⟨by omega, by decide, _, rfl⟩ (zF.use (w 11 (by decide)) ?_)
    repeat first | refine zT.step ct_X1_readWord_ok ?_ | refine And.intro ⟨by decide, _, rfl⟩ ?_ | refine And.intro ⟨by decide, rfl⟩ ?_
    refine And.intro (fun q => ?_) (fun q => ?_)
    · repeat first | refine zT.step ct_X1_readWord_ok ?_ | refine And.intro ⟨by decide, _, rfl⟩ ?_ | refine And.intro ⟨by decide, rfl⟩ ?_
      exact And.intro (by unfold lx_wd; rw [h0, h1, h2, h3, h4, h5, h6, h7, h8, h9, h10, fb0 q]; rfl) (And.intro rfl rfl)
    · repeat first | refine zT.step ct_X1_readWord_ok ?_ | refine And.intro ⟨by decide, _, rfl⟩ ?_ | refine And.intro ⟨by decide, rfl⟩ ?_
      exact And.intro (by unfold lx_wd; rw [h0, h1, h2, h3, h4, h5, h6, h7, h8, h9, h10, fb1 q]; rfl) (And.intro rfl rfl)
  have lp : ∀ (m p e : Nat), p + m = sz → b ≤ p → e = lx_w isL (σ 35) m p → zT X d m_X1_readWord (fun w L2 μ2 => w = some (.int (lx_wd (σ 35) b e)) ∧ L2 = L0 ∧ μ2 = mm (z_up σ 34 2 (nI e)) τ r) 0 0 0 [some (.ref 34)] [] L0 (mm (z_up σ 34 2 (nI p)) τ r) := by
    intro m
    induction m with
    | zero =>
      intro p e hp hbp he
      have he : e = p := he
      subst he
      repeat first | refine zT.step ct_X1_readWord_ok ?_ | refine And.intro ⟨by decide, _, rfl⟩ ?_ | refine And.intro ⟨by decide, rfl⟩ ?_
      refine And.intro (fun h => rest e (by omega) hbp) (fun h => ?_)
      have h : ¬ z_up σ 34 2 (nI e) 34 0 ≤ z_up σ 34 2 (nI e) 34 2 := h
      rw [z_up_s, zu_k _ _ _ _ _ (by decide), h0] at h
      exact absurd (nI_le (by omega) (by omega)) h
    | succ m ih =>
      intro p e hp hbp he
      repeat first | refine zT.step ct_X1_readWord_ok ?_ | refine And.intro ⟨by decide, _, rfl⟩ ?_ | refine And.intro ⟨by decide, rfl⟩ ?_
      refine And.intro (fun h => ?_) (fun h => ?_)
      · have h : z_up σ 34 2 (nI p) 34 0 ≤ z_up σ 34 2 (nI p) 34 2 := h
        rw [z_up_s, zu_k _ _ _ _ _ (by decide), h0] at h
        exact absurd h (nI_ge (by omega) (by omega))
      repeat first | refine zT.step ct_X1_readWord_ok ?_ | refine And.intro ⟨by decide, _, rfl⟩ ?_ | refine And.intro ⟨by decide, rfl⟩ ?_
      refine Exists.intro p (And.intro ⟨mm_up _ _ _ _ _ _, by decide, 160, rfl, by omega, by decide⟩ ?_)
      repeat first | refine zT.step ct_X1_readWord_ok ?_ | refine And.intro ⟨by decide, _, rfl⟩ ?_ | refine And.intro ⟨by decide, rfl⟩ ?_
      refine And.intro (by omega) (zF.use s_isLetter ?_)
      repeat first | refine zT.step ct_X1_readWord_ok ?_ | refine And.intro ⟨by decide, _, rfl⟩ ?_ | refine And.intro ⟨by decide, rfl⟩ ?_
      have e1 : z_up σ 34 2 (nI p) 35 p = σ 35 p := by rw [zu_34 _ _ _ _ (by decide)]
      refine And.intro (fun h => ?_) (fun h => ?_)
      · have h : f_b (isL (z_up σ 34 2 (nI p) 35 p)) = 0 := h
        rw [e1] at h
        have he : e = p := by rw [he]; unfold lx_w; rw [fb0 h]; rfl
        subst he
        exact rest e (by omega) hbp
      · have h : ¬ f_b (isL (z_up σ 34 2 (nI p) 35 p)) = 0 := h
        rw [e1] at h
        have he : e = lx_w isL (σ 35) m (p + 1) := by rw [he]; show (bif isL (σ 35 p) then _ else _) = _; rw [fb1 h]; rfl
        refine zT.step ct_X1_readWord_ok ?_
        refine zT.step ct_X1_readWord_ok ?_
        refine zT.step ct_X1_readWord_ok ?_
        refine And.intro ⟨by decide, _, rfl⟩ ?_
        refine zT.step ct_X1_readWord_ok ?_
        refine zT.step ct_X1_readWord_ok ?_
        refine zT.step ct_X1_readWord_ok ?_
        refine And.intro ⟨by decide, _, rfl⟩ ?_
        refine zT.step ct_X1_readWord_ok ?_
        refine zT.eqm ?_ (ih (p + 1) e (by omega) (by omega) he)
        show mm (z_up (z_up σ 34 2 (nI p)) 34 2 (z_up σ 34 2 (nI p) 34 2 + 1)) τ r = _
        rw [zu_zu, z_up_s, nI_1]
  refine zF.of mk_X1_readWord rfl ?_
  have := lp (sz - b) b _ (by omega) (Nat.le_refl _) rfl
  rw [← h2] at this
  have e2 : z_up σ 34 2 (σ 34 2) = σ := by
    funext x y
    unfold z_up
    by_cases h : x = 34 ∧ y = 2
    · rw [if_pos h, h.1, h.2]
    · rw [if_neg h]
  rw [e2] at this
  exact this
theorem s_readNumber {X : zXs} {d b sz : Nat} {σ : zSg} {τ : Nat → Nat → Int64} {r : Option Nat} (hd : 2 ≤ d) (h0 : σ 34 0 = nI sz) (hs : sz ≤ 160) (h3 : σ 34 3 = nI b) (h2 : σ 34 2 = nI b) (hb : b ≤ sz) : zF X d m_X1_readNumber [.ref 34] L0 (mm σ τ r) (some (.int (if 4 < lx_w isD (σ 35) (sz - b) b - b then -31 else lx_num (σ 35) (sz - b) b 0))) (mm (z_up σ 34 2 (nI (lx_w isD (σ 35) (sz - b) b))) τ r) := by
  have rest : ∀ e (a : Int32), e ≤ sz → b ≤ e → zT X d m_X1_readNumber (fun w L2 μ2 => w = some (.int (if 4 < e - b then -31 else a)) ∧ L2 = L0 ∧ μ2 = mm (z_up σ 34 2 (nI e)) τ r) 0 0 59 [some (.ref 34), some (.int a)] [] L0 (mm (z_up σ 34 2 (nI e)) τ r) := by
    intro e a he hbe
    have e1 : z_up σ 34 2 (nI e) 34 2 - z_up σ 34 2 (nI e) 34 3 = nI (e - b) := by rw [z_up_s, zu_k _ _ _ _ _ (by decide), h3, nI_sub hbe]
    repeat first | refine zT.step ct_X1_readNumber_ok ?_ | refine And.intro ⟨by decide, _, rfl⟩ ?_ | refine And.intro ⟨by decide, rfl⟩ ?_
    refine And.intro (fun h => ?_) (fun h => ?_)
    · have h : z_up σ 34 2 (nI e) 34 2 - z_up σ 34 2 (nI e) 34 3 ≤ 4 := h
      rw [e1] at h
      have h : e - b ≤ 4 := (i_le (x := nI (e - b)) (y := 4) (b := 4) rfl rfl (by omega) (by omega)).mp h
      repeat first | refine zT.step ct_X1_readNumber_ok ?_ | refine And.intro ⟨by decide, _, rfl⟩ ?_ | refine And.intro ⟨by decide, rfl⟩ ?_
      exact And.intro (by rw [if_neg (by omega)]) (And.intro rfl rfl)
    · have h : ¬ z_up σ 34 2 (nI e) 34 2 - z_up σ 34 2 (nI e) 34 3 ≤ 4 := h
      rw [e1] at h
      have h : 4 < e - b := i_ge (x := 4) (y := nI (e - b)) (a := 4) rfl rfl (by omega) (by omega) h
      repeat first | refine zT.step ct_X1_readNumber_ok ?_ | refine And.intro ⟨by decide, _, rfl⟩ ?_ | refine And.intro ⟨by decide, rfl⟩ ?_
      exact And.intro (by rw [if_pos h]) (And.intro rfl rfl)
  have lp : ∀ (m p e : Nat) (a v : Int32), p + m = sz → b ≤ p → e = lx_w isD (σ 35) m p → v = lx_num (σ 35) m p a → zT X d m_X1_readNumber (fun w L2 μ2 => w = some (.int (if 4 < e - b then -31 else v)) ∧ L2 = L0 ∧ μ2 = mm (z_up σ 34 2 (nI e)) τ r) 0 0 2 [some (.ref 34), some (.int a)] [] L0 (mm (z_up σ 34 2 (nI p)) τ r) := by
    intro m
    induction m with
    | zero =>
      intro p e a v hp hbp he hv
      have he : e = p := he
      have hv2 : v = a := hv
      subst he
      rw [hv2]
      repeat first | refine zT.step ct_X1_readNumber_ok ?_ | refine And.intro ⟨by decide, _, rfl⟩ ?_ | refine And.intro ⟨by decide, rfl⟩ ?_
      refine And.intro (fun h => rest e _ (by omega) hbp) (fun h => ?_)
      have h : ¬ z_up σ 34 2 (nI e) 34 0 ≤ z_up σ 34 2 (nI e) 34 2 := h
      rw [z_up_s, zu_k _ _ _ _ _ (by decide), h0] at h
      exact absurd (nI_le (by omega) (by omega)) h
    | succ m ih =>
      intro p e a v hp hbp he hv
      repeat first | refine zT.step ct_X1_readNumber_ok ?_ | refine And.intro ⟨by decide, _, rfl⟩ ?_ | refine And.intro ⟨by decide, rfl⟩ ?_
      refine And.intro (fun h => ?_) (fun h => ?_)
      · have h : z_up σ 34 2 (nI p) 34 0 ≤ z_up σ 34 2 (nI p) 34 2 := h
        rw [z_up_s, zu_k _ _ _ _ _ (by decide), h0] at h
        exact absurd h (nI_ge (by omega) (by omega))
      repeat first | refine zT.step ct_X1_readNumber_ok ?_ | refine And.intro ⟨by decide, _, rfl⟩ ?_ | refine And.intro ⟨by decide, rfl⟩ ?_
      refine Exists.intro p (And.intro ⟨mm_up _ _ _ _ _ _, by decide, 160, rfl, by omega, by decide⟩ ?_)
      repeat first | refine zT.step ct_X1_readNumber_ok ?_ | refine And.intro ⟨by decide, _, rfl⟩ ?_ | refine And.intro ⟨by decide, rfl⟩ ?_
      refine And.intro (by omega) (zF.use s_isDigit ?_)
      repeat first | refine zT.step ct_X1_readNumber_ok ?_ | refine And.intro ⟨by decide, _, rfl⟩ ?_ | refine And.intro ⟨by decide, rfl⟩ ?_
      have e1 : z_up σ 34 2 (nI p) 35 p = σ 35 p := by rw [zu_34 _ _ _ _ (by decide)]
      refine And.intro (fun h => ?_) (fun h => ?_)
      · have h : f_b (isD (z_up σ 34 2 (nI p) 35 p)) = 0 := h
        rw [e1] at h
        have he : e = p := by rw [he]; unfold lx_w; rw [fb0 h]; rfl
        have hv2 : v = a := by rw [hv]; unfold lx_num; rw [fb0 h]; rfl
        subst he
        rw [hv2]
        exact rest e _ (by omega) hbp
      · have h : ¬ f_b (isD (z_up σ 34 2 (nI p) 35 p)) = 0 := h
        rw [e1] at h
        have he : e = lx_w isD (σ 35) m (p + 1) := by rw [he]; show (bif isD (σ 35 p) then _ else _) = _; rw [fb1 h]; rfl
        have hv : v = lx_num (σ 35) m (p + 1) (a * 10 + σ 35 p - 48) := by rw [hv]; show (bif isD (σ 35 p) then _ else _) = _; rw [fb1 h]; rfl
        repeat first | refine zT.step ct_X1_readNumber_ok ?_ | refine And.intro ⟨by decide, _, rfl⟩ ?_ | refine And.intro ⟨by decide, rfl⟩ ?_
        refine Exists.intro p (And.intro ⟨mm_up _ _ _ _ _ _, by decide, 160, rfl, by omega, by decide⟩ ?_)
        refine zT.step ct_X1_readNumber_ok ?_
        refine zT.step ct_X1_readNumber_ok ?_
        refine zT.step ct_X1_readNumber_ok ?_
        refine zT.step ct_X1_readNumber_ok ?_
        show zT X d m_X1_readNumber _ 0 0 46 [some (.ref 34), some (.int (a * 10 + z_up σ 34 2 (nI p) 35 p - 48))] [] _ _
        rw [e1]
        refine zT.step ct_X1_readNumber_ok ?_
        refine zT.step ct_X1_readNumber_ok ?_
        refine zT.step ct_X1_readNumber_ok ?_
        refine And.intro ⟨by decide, _, rfl⟩ ?_
        refine zT.step ct_X1_readNumber_ok ?_
        refine zT.step ct_X1_readNumber_ok ?_
        refine zT.step ct_X1_readNumber_ok ?_
        refine And.intro ⟨by decide, _, rfl⟩ ?_
        refine zT.step ct_X1_readNumber_ok ?_
        refine zT.eqm ?_ (ih (p + 1) e _ v (by omega) (by omega) he hv)
        show mm (z_up (z_up σ 34 2 (nI p)) 34 2 (z_up σ 34 2 (nI p) 34 2 + 1)) τ r = _
        rw [zu_zu, z_up_s, nI_1]
  refine zF.of mk_X1_readNumber rfl ?_
  have := lp (sz - b) b _ 0 _ (by omega) (Nat.le_refl _) rfl rfl
  rw [← h2] at this
  have e2 : z_up σ 34 2 (σ 34 2) = σ := by
    funext x y
    unfold z_up
    by_cases h : x = 34 ∧ y = 2
    · rw [if_pos h, h.1, h.2]
    · rw [if_neg h]
  rw [e2] at this
  refine zT.step ct_X1_readNumber_ok ?_
  refine zT.step ct_X1_readNumber_ok ?_
  exact this
/-- behind an advance: next, begin, token -/
def rk (σ : zSg) (e b : Nat) (t : Int32) : zSg := fun c k => if c = 34 then (if k = 2 then nI e else if k = 3 then nI b else if k = 4 then t else σ 34 k) else σ c k
theorem rk_a (σ : zSg) (e b : Nat) (t : Int32) (x y : Int32) : z_up (z_up (z_up (z_up σ 34 2 x) 34 3 (nI b)) 34 2 (nI e)) 34 4 t = rk σ e b t := by
  funext c k
  unfold z_up rk
  by_cases h : c = 34 <;> by_cases h2 : k = 2 <;> by_cases h3 : k = 3 <;> by_cases h4 : k = 4 <;> simp_all
theorem rk_b (σ : zSg) (e b : Nat) (t : Int32) (x : Int32) : z_up (z_up (z_up (z_up σ 34 2 x) 34 3 (nI b)) 34 4 t) 34 2 (nI e) = rk σ e b t := by
  funext c k
  unfold z_up rk
  by_cases h : c = 34 <;> by_cases h2 : k = 2 <;> by_cases h3 : k = 3 <;> by_cases h4 : k = 4 <;> simp_all
theorem rk_c (σ : zSg) (b : Nat) (t : Int32) : z_up (z_up (z_up σ 34 2 (nI b)) 34 3 (nI b)) 34 4 t = rk σ b b t := by
  funext c k
  unfold z_up rk
  by_cases h : c = 34 <;> by_cases h2 : k = 2 <;> by_cases h3 : k = 3 <;> by_cases h4 : k = 4 <;> simp_all
theorem s_advance {X : zXs} {d p sz : Nat} {σ : zSg} {τ : Nat → Nat → Int64} {r : Option Nat} (hd : 6 ≤ d) (h0 : σ 34 0 = nI sz) (hs : sz ≤ 160) (h2 : σ 34 2 = nI p) (hp : p ≤ sz) : zF X d m_X1_advance [.ref 34] L0 (mm σ τ r) none (mm (rk σ (lx_e (σ 35) sz p) (lx_b (σ 35) sz p) (lx_t (σ 35) sz p)) τ r) := by
  have rest : ∀ b, b ≤ sz → zT X d m_X1_advance (fun w L2 μ2 => w = none ∧ L2 = L0 ∧ μ2 = mm (rk σ (lx_e0 (σ 35) sz b) b (lx_t0 (σ 35) sz b)) τ r) 0 0 52 [some (.ref 34)] [] L0 (mm (z_up σ 34 2 (nI b)) τ r) := by
    intro b hb
    have c0 : z_up (z_up σ 34 2 (nI b)) 34 3 (nI b) 34 0 = nI sz := by rw [zu_k _ _ _ _ _ (by decide), zu_k _ _ _ _ _ (by decide)]; exact h0
    have c2 : z_up (z_up σ 34 2 (nI b)) 34 3 (nI b) 34 2 = nI b := by rw [zu_k _ _ _ _ _ (by decide), z_up_s]
    have c35 : z_up (z_up σ 34 2 (nI b)) 34 3 (nI b) 35 = σ 35 := by rw [zu_34 _ _ _ _ (by decide), zu_34 _ _ _ _ (by decide)]
    refine zT.step ct_X1_advance_ok ?_
    refine zT.step ct_X1_advance_ok ?_
    refine zT.step ct_X1_advance_ok ?_
    refine And.intro ⟨by decide, _, rfl⟩ ?_
    refine zT.step ct_X1_advance_ok ?_
    refine And.intro ⟨by decide, _, rfl⟩ ?_
    refine zT.eqm (μ' := mm (z_up (z_up σ 34 2 (nI b)) 34 3 (nI b)) τ r) ?_ ?_
    · show mm (z_up (z_up σ 34 2 (nI b)) 34 3 (z_up σ 34 2 (nI b) 34 2)) τ r = _
      rw [z_up_s]
    generalize hσ1 : z_up (z_up σ 34 2 (nI b)) 34 3 (nI b) = σ1 at c0 c2 c35 ⊢
    have c3 : σ1 34 3 = nI b := by rw [← hσ1, z_up_s]
    repeat first | refine zT.step ct_X1_advance_ok ?_ | refine And.intro ⟨by decide, _, rfl⟩ ?_ | refine And.intro ⟨by decide, rfl⟩ ?_
    refine And.intro (fun h => ?_) (fun h => ?_)
    · have h : σ1 34 2 < σ1 34 0 := h
      rw [c2, c0] at h
      have h : b < sz := (nI_ltI (by omega) (by omega)).mp h
      repeat first | refine zT.step ct_X1_advance_ok ?_ | refine And.intro ⟨by decide, _, rfl⟩ ?_ | refine And.intro ⟨by decide, rfl⟩ ?_
      refine Exists.intro b (And.intro ⟨c2, by decide, 160, rfl, by omega, by decide⟩ ?_)
      repeat first | refine zT.step ct_X1_advance_ok ?_ | refine And.intro ⟨by decide, _, rfl⟩ ?_ | refine And.intro ⟨by decide, rfl⟩ ?_
      refine And.intro (by omega) (zF.use s_isLetter ?_)
      repeat first | refine zT.step ct_X1_advance_ok ?_ | refine And.intro ⟨by decide, _, rfl⟩ ?_ | refine And.intro ⟨by decide, rfl⟩ ?_
      refine And.intro (fun q => ?_) (fun q => ?_)
      · have q : f_b (isL (σ1 35 b)) = 0 := q
        rw [c35] at q
        have q := fb0 q
        repeat first | refine zT.step ct_X1_advance_ok ?_ | refine And.intro ⟨by decide, _, rfl⟩ ?_ | refine And.intro ⟨by decide, rfl⟩ ?_
        refine Exists.intro b (And.intro ⟨c2, by decide, 160, rfl, by omega, by decide⟩ ?_)
        repeat first | refine zT.step ct_X1_advance_ok ?_ | refine And.intro ⟨by decide, _, rfl⟩ ?_ | refine And.intro ⟨by decide, rfl⟩ ?_
        refine And.intro (by omega) (zF.use s_isDigit ?_)
        repeat first | refine zT.step ct_X1_advance_ok ?_ | refine And.intro ⟨by decide, _, rfl⟩ ?_ | refine And.intro ⟨by decide, rfl⟩ ?_
        refine And.intro (fun q2 => ?_) (fun q2 => ?_)
        · have q2 : f_b (isD (σ1 35 b)) = 0 := q2
          rw [c35] at q2
          have q2 := fb0 q2
          repeat first | refine zT.step ct_X1_advance_ok ?_ | refine And.intro ⟨by decide, _, rfl⟩ ?_ | refine And.intro ⟨by decide, rfl⟩ ?_
          refine Exists.intro b (And.intro ⟨c2, by decide, 160, rfl, by omega, by decide⟩ ?_)
          repeat first | refine zT.step ct_X1_advance_ok ?_ | refine And.intro ⟨by decide, _, rfl⟩ ?_ | refine And.intro ⟨by decide, rfl⟩ ?_
          refine And.intro (by omega) (zF.use s_signOf ?_)
          repeat first | refine zT.step ct_X1_advance_ok ?_ | refine And.intro ⟨by decide, _, rfl⟩ ?_ | refine And.intro ⟨by decide, rfl⟩ ?_
          refine And.intro rfl (And.intro rfl ?_)
          show mm (z_up (z_up σ1 34 4 (lx_sg (σ1 35 b))) 34 2 (z_up σ1 34 4 (lx_sg (σ1 35 b)) 34 2 + 1)) τ r = _
          rw [zu_k _ _ _ _ _ (by decide), c2, nI_1, c35, ← hσ1, rk_b]
          unfold lx_e0 lx_t0
          rw [if_neg (show ¬ sz ≤ b by omega), if_neg (show ¬ sz ≤ b by omega), q, q2]
          rfl
        · have q2 : ¬ f_b (isD (σ1 35 b)) = 0 := q2
          rw [c35] at q2
          have q2 := fb1 q2
          repeat first | refine zT.step ct_X1_advance_ok ?_ | refine And.intro ⟨by decide, _, rfl⟩ ?_ | refine And.intro ⟨by decide, rfl⟩ ?_
          refine And.intro ⟨by omega, by decide, _, rfl⟩ (zF.use (s_readNumber (by omega) c0 hs c3 c2 hb) ?_)
          repeat first | refine zT.step ct_X1_advance_ok ?_ | refine And.intro ⟨by decide, _, rfl⟩ ?_ | refine And.intro ⟨by decide, rfl⟩ ?_
          refine And.intro rfl (And.intro rfl ?_)
          show mm (z_up (z_up σ1 34 2 _) 34 4 _) τ r = _
          rw [c35, ← hσ1, rk_a _ _ _ _ _ 0]
          unfold lx_e0 lx_t0
          rw [if_neg (show ¬ sz ≤ b by omega), if_neg (show ¬ sz ≤ b by omega), q, q2]
          rfl
      · have q : ¬ f_b (isL (σ1 35 b)) = 0 := q
        rw [c35] at q
        have q := fb1 q
        repeat first | refine zT.step ct_X1_advance_ok ?_ | refine And.intro ⟨by decide, _, rfl⟩ ?_ | refine And.intro ⟨by decide, rfl⟩ ?_
        refine And.intro ⟨by omega, by decide, _, rfl⟩ (zF.use (s_readWord (by omega) c0 hs c3 c2 hb) ?_)
        repeat first | refine zT.step ct_X1_advance_ok ?_ | refine And.intro ⟨by decide, _, rfl⟩ ?_ | refine And.intro ⟨by decide, rfl⟩ ?_
        refine And.intro rfl (And.intro rfl ?_)
        show mm (z_up (z_up σ1 34 2 _) 34 4 _) τ r = _
        rw [c35, ← hσ1, rk_a _ _ _ _ _ 0]
        unfold lx_e0 lx_t0
        rw [if_neg (show ¬ sz ≤ b by omega), if_neg (show ¬ sz ≤ b by omega), q]
        rfl
    · have h : ¬ σ1 34 2 < σ1 34 0 := h
      rw [c2, c0] at h
      have h : sz ≤ b := by
        rcases Nat.lt_or_ge b sz with q | q
        · exact absurd (nI_lt q (by omega)) h
        · exact q
      repeat first | refine zT.step ct_X1_advance_ok ?_ | refine And.intro ⟨by decide, _, rfl⟩ ?_ | refine And.intro ⟨by decide, rfl⟩ ?_
      refine And.intro rfl (And.intro rfl ?_)
      show mm (z_up σ1 34 4 (-30)) τ r = _
      rw [← hσ1, rk_c]
      unfold lx_e0 lx_t0
      rw [if_pos h, if_pos h]
  have lp : ∀ (m q : Nat), q + m = sz → zT X d m_X1_advance (fun w L2 μ2 => w = none ∧ L2 = L0 ∧ μ2 = mm (rk σ (lx_e0 (σ 35) sz (lx_sk (σ 35) m q)) (lx_sk (σ 35) m q) (lx_t0 (σ 35) sz (lx_sk (σ 35) m q))) τ r) 0 0 0 [some (.ref 34)] [] L0 (mm (z_up σ 34 2 (nI q)) τ r) := by
    intro m
    induction m with
    | zero =>
      intro q hq
      repeat first | refine zT.step ct_X1_advance_ok ?_ | refine And.intro ⟨by decide, _, rfl⟩ ?_ | refine And.intro ⟨by decide, rfl⟩ ?_
      refine And.intro (fun h => rest q (by omega)) (fun h => ?_)
      have h : ¬ z_up σ 34 2 (nI q) 34 0 ≤ z_up σ 34 2 (nI q) 34 2 := h
      rw [z_up_s, zu_k _ _ _ _ _ (by decide), h0] at h
      exact absurd (nI_le (by omega) (by omega)) h
    | succ m ih =>
      intro q hq
      have e1 : z_up σ 34 2 (nI q) 35 q = σ 35 q := by rw [zu_34 _ _ _ _ (by decide)]
      have more : (σ 35 q = 32 ∨ σ 35 q = 10) → zT X d m_X1_advance (fun w L2 μ2 => w = none ∧ L2 = L0 ∧ μ2 = mm (rk σ (lx_e0 (σ 35) sz (lx_sk (σ 35) (m + 1) q)) (lx_sk (σ 35) (m + 1) q) (lx_t0 (σ 35) sz (lx_sk (σ 35) (m + 1) q))) τ r) 0 0 39 [some (.ref 34)] [] L0 (mm (z_up σ 34 2 (nI q)) τ r) := by
        intro hc
        have e2 : lx_sk (σ 35) (m + 1) q = lx_sk (σ 35) m (q + 1) := by
          show (if σ 35 q = 32 ∨ σ 35 q = 10 then _ else _) = _
          rw [if_pos hc]
        rw [e2]
        refine zT.step ct_X1_advance_ok ?_
        refine zT.step ct_X1_advance_ok ?_
        refine zT.step ct_X1_advance_ok ?_
        refine And.intro ⟨by decide, _, rfl⟩ ?_
        refine zT.step ct_X1_advance_ok ?_
        refine zT.step ct_X1_advance_ok ?_
        refine zT.step ct_X1_advance_ok ?_
        refine And.intro ⟨by decide, _, rfl⟩ ?_
        refine zT.step ct_X1_advance_ok ?_
        refine zT.eqm ?_ (ih (q + 1) (by omega))
        show mm (z_up (z_up σ 34 2 (nI q)) 34 2 (z_up σ 34 2 (nI q) 34 2 + 1)) τ r = _
        rw [zu_zu, z_up_s, nI_1]
      repeat first | refine zT.step ct_X1_advance_ok ?_ | refine And.intro ⟨by decide, _, rfl⟩ ?_ | refine And.intro ⟨by decide, rfl⟩ ?_
      refine And.intro (fun h => ?_) (fun h => ?_)
      · have h : z_up σ 34 2 (nI q) 34 0 ≤ z_up σ 34 2 (nI q) 34 2 := h
        rw [z_up_s, zu_k _ _ _ _ _ (by decide), h0] at h
        exact absurd h (nI_ge (by omega) (by omega))
      repeat first | refine zT.step ct_X1_advance_ok ?_ | refine And.intro ⟨by decide, _, rfl⟩ ?_ | refine And.intro ⟨by decide, rfl⟩ ?_
      refine Exists.intro q (And.intro ⟨mm_up _ _ _ _ _ _, by decide, 160, rfl, by omega, by decide⟩ ?_)
      repeat first | refine zT.step ct_X1_advance_ok ?_ | refine And.intro ⟨by decide, _, rfl⟩ ?_ | refine And.intro ⟨by decide, rfl⟩ ?_
      refine And.intro (fun h => ?_) (fun h => ?_)
      · have h : z_up σ 34 2 (nI q) 35 q = 32 := h
        rw [e1] at h
        exact more (Or.inl h)
      have h1 : ¬ z_up σ 34 2 (nI q) 35 q = 32 := h
      rw [e1] at h1
      repeat first | refine zT.step ct_X1_advance_ok ?_ | refine And.intro ⟨by decide, _, rfl⟩ ?_ | refine And.intro ⟨by decide, rfl⟩ ?_
      refine Exists.intro q (And.intro ⟨mm_up _ _ _ _ _ _, by decide, 160, rfl, by omega, by decide⟩ ?_)
      repeat first | refine zT.step ct_X1_advance_ok ?_ | refine And.intro ⟨by decide, _, rfl⟩ ?_ | refine And.intro ⟨by decide, rfl⟩ ?_
      refine And.intro (fun h => ?_) (fun h => ?_)
      · have h : z_up σ 34 2 (nI q) 35 q = 10 := h
        rw [e1] at h
        exact more (Or.inr h)
      have h2 : ¬ z_up σ 34 2 (nI q) 35 q = 10 := h
      rw [e1] at h2
      have e2 : lx_sk (σ 35) (m + 1) q = q := by
        show (if σ 35 q = 32 ∨ σ 35 q = 10 then _ else _) = _
        rw [if_neg (fun z => z.elim h1 h2)]
      rw [e2]
      exact rest q (by omega)
  refine zF.of mk_X1_advance rfl ?_
  have := lp (sz - p) p (by omega)
  rw [← h2] at this
  have e2 : z_up σ 34 2 (σ 34 2) = σ := by
    funext x y
    unfold z_up
    by_cases h : x = 34 ∧ y = 2
    · rw [if_pos h, h.1, h.2]
    · rw [if_neg h]
  rw [e2] at this
  exact this
