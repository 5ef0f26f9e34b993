/-! words, numbers and signs told apart: pure facts -/
def z_wcd : List Int32 := [-1, -2, -3, -4, -5, -6, -23, -24, -25, -11, -12, -18]
theorem lx_eq_iff (f : Nat → Int32) : ∀ (w : List Int32) (b : Nat), lx_eq f w b = true ↔ ∀ j, j < w.length → w.getD j 0 = f (b + j) := by
  intro w
  induction w with
  | nil => intro b; exact ⟨fun _ j hj => absurd hj (Nat.not_lt_zero j), fun _ => rfl⟩
  | cons x w ih =>
    intro b
    show (decide (x = f b) && lx_eq f w (b + 1)) = true ↔ _
    rw [Bool.and_eq_true, decide_eq_true_eq, ih]
    constructor
    · intro h j hj
      cases j with
      | zero => exact h.1
      | succ j =>
        have := h.2 j (by have : j + 1 < w.length + 1 := hj; omega)
        rw [show b + (j + 1) = b + 1 + j by omega]
        exact this
    · intro h
      refine ⟨h 0 (Nat.succ_pos _), fun j hj => ?_⟩
      have := h (j + 1) (by show j + 1 < w.length + 1; omega)
      rw [show b + (j + 1) = b + 1 + j by omega] at this
      exact this
theorem z_sb_u : ∀ i, i < 12 → ∀ j, j < 12 → z_sb.getD i [] = z_sb.getD j [] → i = j := by decide
theorem z_wcd_u : ∀ i, i < 12 → ∀ j, j < 12 → z_wcd.getD i 0 = z_wcd.getD j 0 → i = j := by decide
theorem lx_is_u {f : Nat → Int32} {b e i j : Nat} (hi : i < 12) (hj : j < 12) (h1 : lx_is f i b e = true) (h2 : lx_is f j b e = true) : i = j := by
  unfold lx_is at h1 h2
  rw [Bool.and_eq_true, decide_eq_true_eq, lx_eq_iff] at h1 h2
  refine z_sb_u i hi j hj (List.ext_getElem (by rw [z_sb_l i hi, z_sb_l j hj]; omega) fun k k1 k2 => ?_)
  have a1 := h1.2 k k1
  have a2 := h2.2 k k2
  rw [List.getD_eq_getElem?_getD, List.getElem?_eq_getElem k1] at a1
  rw [List.getD_eq_getElem?_getD, List.getElem?_eq_getElem k2] at a2
  exact (a1.trans a2.symm)
theorem lx_wd_is {f : Nat → Int32} {b e i : Nat} (hi : i < 12) (h : lx_is f i b e = true) : lx_wd f b e = z_wcd.getD i 0 := by
  have hf : ∀ j, j < 12 → j ≠ i → lx_is f j b e = false := by
    intro j hj hji
    cases hx : lx_is f j b e with
    | false => rfl
    | true => exact absurd (lx_is_u hj hi hx h) hji
  unfold lx_wd
  match i, hi, h, hf with
  | 0, _, h, hf => rw [h]; rfl
  | 1, _, h, hf => rw [hf 0 (by decide) (by decide), h]; rfl
  | 2, _, h, hf => rw [hf 0 (by decide) (by decide), hf 1 (by decide) (by decide), h]; rfl
  | 3, _, h, hf => rw [hf 0 (by decide) (by decide), hf 1 (by decide) (by decide), hf 2 (by decide) (by decide), h]; rfl
  | 4, _, h, hf => rw [hf 0 (by decide) (by decide), hf 1 (by decide) (by decide), hf 2 (by decide) (by decide), hf 3 (by decide) (by decide), h]; rfl
  | 5, _, h, hf => rw [hf 0 (by decide) (by decide), hf 1 (by decide) (by decide), hf 2 (by decide) (by decide), hf 3 (by decide) (by decide), hf 4 (by decide) (by decide), h]; rfl
  | 6, _, h, hf => rw [hf 0 (by decide) (by decide), hf 1 (by decide) (by decide), hf 2 (by decide) (by decide), hf 3 (by decide) (by decide), hf 4 (by decide) (by decide), hf 5 (by decide) (by decide), h]; rfl
  | 7, _, h, hf => rw [hf 0 (by decide) (by decide), hf 1 (by decide) (by decide), hf 2 (by decide) (by decide), hf 3 (by decide) (by decide), hf 4 (by decide) (by decide), hf 5 (by decide) (by decide), hf 6 (by decide) (by decide), h]; rfl
  | 8, _, h, hf => rw [hf 0 (by decide) (by decide), hf 1 (by decide) (by decide), hf 2 (by decide) (by decide), hf 3 (by decide) (by decide), hf 4 (by decide) (by decide), hf 5 (by decide) (by decide), hf 6 (by decide) (by decide), hf 7 (by decide) (by decide), h]; rfl
  | 9, _, h, hf => rw [hf 0 (by decide) (by decide), hf 1 (by decide) (by decide), hf 2 (by decide) (by decide), hf 3 (by decide) (by decide), hf 4 (by decide) (by decide), hf 5 (by decide) (by decide), hf 6 (by decide) (by decide), hf 7 (by decide) (by decide), hf 8 (by decide) (by decide), h]; rfl
  | 10, _, h, hf => rw [hf 0 (by decide) (by decide), hf 1 (by decide) (by decide), hf 2 (by decide) (by decide), hf 3 (by decide) (by decide), hf 4 (by decide) (by decide), hf 5 (by decide) (by decide), hf 6 (by decide) (by decide), hf 7 (by decide) (by decide), hf 8 (by decide) (by decide), hf 9 (by decide) (by decide), h]; rfl
  | 11, _, h, hf => rw [hf 0 (by decide) (by decide), hf 1 (by decide) (by decide), hf 2 (by decide) (by decide), hf 3 (by decide) (by decide), hf 4 (by decide) (by decide), hf 5 (by decide) (by decide), hf 6 (by decide) (by decide), hf 7 (by decide) (by decide), hf 8 (by decide) (by decide), hf 9 (by decide) (by decide), hf 10 (by decide) (by decide), h]; rfl
theorem lx_wd_no {f : Nat → Int32} {b e : Nat} (hf : ∀ j, j < 12 → lx_is f j b e = false) : lx_wd f b e = -31 := by
  unfold lx_wd
  rw [hf 0 (by decide), hf 1 (by decide), hf 2 (by decide), hf 3 (by decide), hf 4 (by decide), hf 5 (by decide), hf 6 (by decide), hf 7 (by decide), hf 8 (by decide), hf 9 (by decide), hf 10 (by decide), hf 11 (by decide)]
  rfl
theorem z_wcd_n : ∀ i, i < 12 → z_wcd.getD i 0 ≠ -31 ∧ z_wcd.getD i 0 ≠ -30 ∧ z_wcd.getD i 0 < 0 := by decide
theorem lx_wd_iff {f : Nat → Int32} {b e i : Nat} (hi : i < 12) : lx_wd f b e = z_wcd.getD i 0 ↔ lx_is f i b e = true := by
  constructor
  · intro h
    cases hx : lx_is f i b e with
    | true => rfl
    | false =>
      by_cases hj : ∃ j, j < 12 ∧ lx_is f j b e = true
      · obtain ⟨j, hj, hjt⟩ := hj
        rw [lx_wd_is hj hjt] at h
        have := z_wcd_u j hj i hi h
        subst this
        rw [hjt] at hx
        cases hx
      · rw [lx_wd_no (fun j hj2 => by cases hy : lx_is f j b e with | false => rfl | true => exact absurd ⟨j, hj2, hy⟩ hj)] at h
        exact absurd h.symm (z_wcd_n i hi).1
  · exact lx_wd_is hi
/-- what a word's code can be -/
theorem lx_wd_v (f : Nat → Int32) (b e : Nat) : lx_wd f b e = -31 ∨ ∃ i, i < 12 ∧ lx_wd f b e = z_wcd.getD i 0 := by
  by_cases hj : ∃ j, j < 12 ∧ lx_is f j b e = true
  · obtain ⟨j, hj, hjt⟩ := hj
    exact Or.inr ⟨j, hj, lx_wd_is hj hjt⟩
  · exact Or.inl (lx_wd_no (fun j hj2 => by cases hy : lx_is f j b e with | false => rfl | true => exact absurd ⟨j, hj2, hy⟩ hj))
def z_sgl : List (Int32 × Int32) := [(40, -20), (41, -21), (59, -22), (43, -15), (45, -16), (42, -17), (60, -13), (61, -14)]
theorem lx_sg_v (x : Int32) : (∃ q, q ∈ z_sgl ∧ x = q.1 ∧ lx_sg x = q.2) ∨ (lx_sg x = -31 ∧ ∀ q, q ∈ z_sgl → x ≠ q.1) := by
  by_cases h0 : x = 40
  · exact Or.inl ⟨(40, -20), by decide, h0, by rw [h0]; decide⟩
  by_cases h1 : x = 41
  · exact Or.inl ⟨(41, -21), by decide, h1, by rw [h1]; decide⟩
  by_cases h2 : x = 59
  · exact Or.inl ⟨(59, -22), by decide, h2, by rw [h2]; decide⟩
  by_cases h3 : x = 43
  · exact Or.inl ⟨(43, -15), by decide, h3, by rw [h3]; decide⟩
  by_cases h4 : x = 45
  · exact Or.inl ⟨(45, -16), by decide, h4, by rw [h4]; decide⟩
  by_cases h5 : x = 42
  · exact Or.inl ⟨(42, -17), by decide, h5, by rw [h5]; decide⟩
  by_cases h6 : x = 60
  · exact Or.inl ⟨(60, -13), by decide, h6, by rw [h6]; decide⟩
  by_cases h7 : x = 61
  · exact Or.inl ⟨(61, -14), by decide, h7, by rw [h7]; decide⟩
  refine Or.inr ⟨by simp [lx_sg, h0, h1, h2, h3, h4, h5, h6, h7], fun q hq => ?_⟩
  simp only [z_sgl, List.mem_cons, List.not_mem_nil, or_false] at hq
  rcases hq with rfl | rfl | rfl | rfl | rfl | rfl | rfl | rfl
  · exact h0
  · exact h1
  · exact h2
  · exact h3
  · exact h4
  · exact h5
  · exact h6
  · exact h7
theorem z_sg_u : ∀ p, p ∈ z_sgl → ∀ q, q ∈ z_sgl → p.2 = q.2 → p.1 = q.1 := by decide
theorem z_sg_n : ∀ q, q ∈ z_sgl → q.2 ≠ -31 ∧ q.2 ≠ -30 ∧ q.2 < 0 := by decide
theorem z_sg_w : ∀ q, q ∈ z_sgl → ∀ i, i < 12 → q.2 ≠ z_wcd.getD i 0 := by decide
theorem lx_sg_iff {x : Int32} {q : Int32 × Int32} (hq : q ∈ z_sgl) : lx_sg x = q.2 ↔ x = q.1 := by
  rcases lx_sg_v x with ⟨p, hp, h1, h2⟩ | ⟨h1, h2⟩
  · rw [h2, h1]
    exact ⟨z_sg_u p hp q hq, fun h => by
      have : ∀ p, p ∈ z_sgl → ∀ q, q ∈ z_sgl → p.1 = q.1 → p.2 = q.2 := by decide
      exact this p hp q hq h⟩
  · rw [h1]
    exact ⟨fun h => absurd h.symm (z_sg_n q hq).1, fun h => absurd h (h2 q hq)⟩
theorem isD_v {x : Int32} (h : isD x = true) : ∃ c, c < 10 ∧ x = nI (48 + c) := by
  have h : (48 : Int32) ≤ x ∧ x ≤ 57 := of_decide_eq_true h
  have h1 := Int32.le_iff_toInt_le.mp h.1
  have h2 := Int32.le_iff_toInt_le.mp h.2
  have e1 : (48 : Int32).toInt = 48 := by decide
  have e2 : (57 : Int32).toInt = 57 := by decide
  refine ⟨(x.toInt - 48).toNat, by omega, ?_⟩
  refine Int32.toInt_inj.mp ?_
  rw [nI_toInt (by omega)]
  omega
theorem nI_mulN (a b : Nat) : nI a * nI b = nI (a * b) := by
  unfold nI
  exact (Int32.ofNat_mul a b).symm
theorem num_step {k c : Nat} : nI k * 10 + nI (48 + c) - 48 = nI (k * 10 + c) := by
  show nI k * nI 10 + nI (48 + c) - nI 48 = _
  rw [nI_mulN, nI_add, show k * 10 + (48 + c) = (k * 10 + c) + 48 by omega, ← nI_add (k * 10 + c) 48]
  exact Int32.add_sub_cancel _ _
theorem lx_num_v (f : Nat → Int32) : ∀ (m p k : Nat), ∃ k', lx_num f m p (nI k) = nI k' ∧ k' + 1 ≤ (k + 1) * 10 ^ (lx_w isD f m p - p) := by
  intro m
  induction m with
  | zero => intro p k; exact ⟨k, rfl, by show k + 1 ≤ (k + 1) * 10 ^ (p - p); rw [Nat.sub_self]; omega⟩
  | succ m ih =>
    intro p k
    unfold lx_num lx_w
    cases hd : isD (f p) with
    | false => exact ⟨k, rfl, by show k + 1 ≤ (k + 1) * 10 ^ (p - p); rw [Nat.sub_self]; omega⟩
    | true =>
      obtain ⟨c, hc, hx⟩ := isD_v hd
      obtain ⟨k', h1, h2⟩ := ih (p + 1) (k * 10 + c)
      have hw := lx_w_le isD f m (p + 1)
      refine ⟨k', ?_, ?_⟩
      · show lx_num f m (p + 1) (nI k * 10 + f p - 48) = _
        rw [hx, num_step]
        exact h1
      · show k' + 1 ≤ (k + 1) * 10 ^ (lx_w isD f m (p + 1) - p)
        rw [show lx_w isD f m (p + 1) - p = (lx_w isD f m (p + 1) - (p + 1)) + 1 by omega, Nat.pow_succ]
        generalize 10 ^ (lx_w isD f m (p + 1) - (p + 1)) = P at h2 ⊢
        have : (k * 10 + c + 1) * P ≤ ((k + 1) * 10) * P := Nat.mul_le_mul_right P (by omega)
        have e : (k + 1) * (P * 10) = ((k + 1) * 10) * P := by rw [Nat.mul_comm P 10, Nat.mul_assoc]
        omega
theorem lx_num_b {f : Nat → Int32} {m p : Nat} (h : lx_w isD f m p - p ≤ 4) : ∃ k, k < 10000 ∧ lx_num f m p 0 = nI k := by
  obtain ⟨k, h1, h2⟩ := lx_num_v f m p 0
  refine ⟨k, ?_, h1⟩
  have : 10 ^ (lx_w isD f m p - p) ≤ 10 ^ 4 := Nat.pow_le_pow_right (by decide) h
  have e : (10 : Nat) ^ 4 = 10000 := by decide
  omega
/-! a token at p: of which sort it is -/
def k_tok (f : Nat → Int32) (sz p : Nat) : Nat := if sz ≤ lx_b f sz p then 0 else bif isL (f (lx_b f sz p)) then 1 else bif isD (f (lx_b f sz p)) then (if 4 < lx_e f sz p - lx_b f sz p then 4 else 2) else if lx_sg (f (lx_b f sz p)) = -31 then 4 else 3
theorem k_tok_v (f : Nat → Int32) (sz p : Nat) : (k_tok f sz p = 0 ∧ lx_t f sz p = -30) ∨ (k_tok f sz p = 1 ∧ lx_t f sz p = lx_wd f (lx_b f sz p) (lx_e f sz p)) ∨ (k_tok f sz p = 2 ∧ ∃ k, k < 10000 ∧ lx_t f sz p = nI k) ∨ (k_tok f sz p = 3 ∧ ∃ q, q ∈ z_sgl ∧ f (lx_b f sz p) = q.1 ∧ lx_t f sz p = q.2) ∨ (k_tok f sz p = 4 ∧ lx_t f sz p = -31) := by
  unfold k_tok lx_t lx_t0 lx_e lx_e0
  generalize lx_b f sz p = b
  by_cases h : sz ≤ b
  · rw [if_pos h, if_pos h]
    exact Or.inl ⟨rfl, rfl⟩
  rw [if_neg h, if_neg h, if_neg h]
  cases isL (f b) with
  | true => exact Or.inr (Or.inl ⟨rfl, rfl⟩)
  | false =>
    cases isD (f b) with
    | true =>
      show ((if 4 < lx_w isD f (sz - b) b - b then 4 else 2) = 0 ∧ (if 4 < lx_w isD f (sz - b) b - b then (-31 : Int32) else lx_num f (sz - b) b 0) = -30) ∨ _
      by_cases h4 : 4 < lx_w isD f (sz - b) b - b
      · refine Or.inr (Or.inr (Or.inr (Or.inr ⟨if_pos h4, if_pos h4⟩)))
      · exact Or.inr (Or.inr (Or.inl ⟨if_neg h4, by
          obtain ⟨k, hk, e⟩ := lx_num_b (f := f) (m := sz - b) (p := b) (by omega)
          exact ⟨k, hk, (if_neg h4).trans e⟩⟩))
    | false =>
      rcases lx_sg_v (f b) with ⟨q, hq, h1, h2⟩ | ⟨h1, h2⟩
      · refine Or.inr (Or.inr (Or.inr (Or.inl ⟨if_neg ?_, q, hq, h1, h2⟩)))
        rw [h2]
        exact (z_sg_n q hq).1
      · exact Or.inr (Or.inr (Or.inr (Or.inr ⟨if_pos h1, h1⟩)))
/-- the token is a word's: that of number i -/
theorem tok_wd {f : Nat → Int32} {sz p i : Nat} (hi : i < 12) : lx_t f sz p = z_wcd.getD i 0 ↔ k_tok f sz p = 1 ∧ lx_is f i (lx_b f sz p) (lx_e f sz p) = true := by
  have hn := z_wcd_n i hi
  rcases k_tok_v f sz p with ⟨h1, h2⟩ | ⟨h1, h2⟩ | ⟨h1, k, hk, h2⟩ | ⟨h1, q, hq, h3, h2⟩ | ⟨h1, h2⟩
  · rw [h1, h2]; exact ⟨fun h => absurd h.symm hn.2.1, fun h => absurd h.1 (by decide)⟩
  · rw [h1, h2, lx_wd_iff hi]; exact ⟨fun h => ⟨rfl, h⟩, fun h => h.2⟩
  · rw [h1, h2]; exact ⟨fun h => absurd hn.2.2 (by rw [← h]; exact nI_pos (by omega)), fun h => absurd h.1 (by decide)⟩
  · rw [h1, h2]; exact ⟨fun h => absurd h (z_sg_w q hq i hi), fun h => absurd h.1 (by decide)⟩
  · rw [h1, h2]; exact ⟨fun h => absurd h.symm hn.1, fun h => absurd h.1 (by decide)⟩
/-- the token is a sign -/
theorem tok_sg {f : Nat → Int32} {sz p : Nat} {q : Int32 × Int32} (hq : q ∈ z_sgl) : lx_t f sz p = q.2 ↔ k_tok f sz p = 3 ∧ f (lx_b f sz p) = q.1 := by
  have hn := z_sg_n q hq
  rcases k_tok_v f sz p with ⟨h1, h2⟩ | ⟨h1, h2⟩ | ⟨h1, k, hk, h2⟩ | ⟨h1, p', hp, h3, h2⟩ | ⟨h1, h2⟩
  · rw [h1, h2]; exact ⟨fun h => absurd h.symm hn.2.1, fun h => absurd h.1 (by decide)⟩
  · rw [h1, h2]
    refine ⟨fun h => ?_, fun h => absurd h.1 (by decide)⟩
    rcases lx_wd_v f (lx_b f sz p) (lx_e f sz p) with h4 | ⟨i, hi, h4⟩
    · rw [h4] at h; exact absurd h.symm hn.1
    · rw [h4] at h; exact absurd h.symm (z_sg_w q hq i hi)
  · rw [h1, h2]; exact ⟨fun h => absurd hn.2.2 (by rw [← h]; exact nI_pos (by omega)), fun h => absurd h.1 (by decide)⟩
  · rw [h1, h2, h3]
    exact ⟨fun h => ⟨rfl, z_sg_u p' hp q hq h⟩, fun h => by
      have : ∀ p, p ∈ z_sgl → ∀ q, q ∈ z_sgl → p.1 = q.1 → p.2 = q.2 := by decide
      exact this p' hp q hq h.2⟩
  · rw [h1, h2]; exact ⟨fun h => absurd h.symm hn.1, fun h => absurd h.1 (by decide)⟩
theorem tok_nm {f : Nat → Int32} {sz p : Nat} : 0 ≤ lx_t f sz p ↔ k_tok f sz p = 2 := by
  rcases k_tok_v f sz p with ⟨h1, h2⟩ | ⟨h1, h2⟩ | ⟨h1, k, hk, h2⟩ | ⟨h1, q, hq, h3, h2⟩ | ⟨h1, h2⟩
  · rw [h1, h2]; exact ⟨fun h => absurd h (by decide), fun h => absurd h (by decide)⟩
  · rw [h1, h2]
    refine ⟨fun h => ?_, fun h => absurd h (by decide)⟩
    rcases lx_wd_v f (lx_b f sz p) (lx_e f sz p) with h4 | ⟨i, hi, h4⟩
    · rw [h4] at h; exact absurd h (by decide)
    · rw [h4] at h; exact absurd (z_wcd_n i hi).2.2 (Int32.not_lt.mpr h)
  · rw [h1, h2]; exact ⟨fun _ => rfl, fun _ => nI_pos' (by omega)⟩
  · rw [h1, h2]; exact ⟨fun h => absurd (z_sg_n q hq).2.2 (Int32.not_lt.mpr h), fun h => absurd h (by decide)⟩
  · rw [h1, h2]; exact ⟨fun h => absurd h (by decide), fun h => absurd h (by decide)⟩
theorem tok_en {f : Nat → Int32} {sz p : Nat} : lx_t f sz p = -30 ↔ k_tok f sz p = 0 := by
  rcases k_tok_v f sz p with ⟨h1, h2⟩ | ⟨h1, h2⟩ | ⟨h1, k, hk, h2⟩ | ⟨h1, q, hq, h3, h2⟩ | ⟨h1, h2⟩
  · rw [h1, h2]; exact ⟨fun _ => rfl, fun _ => rfl⟩
  · rw [h1, h2]
    refine ⟨fun h => ?_, fun h => absurd h (by decide)⟩
    rcases lx_wd_v f (lx_b f sz p) (lx_e f sz p) with h4 | ⟨i, hi, h4⟩
    · rw [h4] at h; exact absurd h (by decide)
    · rw [h4] at h; exact absurd h (z_wcd_n i hi).2.1
  · rw [h1, h2]; exact ⟨fun h => absurd (nI_pos' (n := k) (by omega)) (by rw [h]; decide), fun h => absurd h (by decide)⟩
  · rw [h1, h2]; exact ⟨fun h => absurd h (z_sg_n q hq).2.1, fun h => absurd h (by decide)⟩
  · rw [h1, h2]; exact ⟨fun h => absurd h (by decide), fun h => absurd h (by decide)⟩
