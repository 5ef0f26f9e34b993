/-! the class's leaves -/
def f_b (p : Bool) : Int32 := bif p then 1 else 0
theorem f_b_t {p : Bool} (h : p = true) : f_b p = 1 := by rw [h]; rfl
theorem f_b_f {p : Bool} (h : p = false) : f_b p = 0 := by rw [h]; rfl
def f_bnd (v h : Int32) : Int32 := if 0 < (if h < v then h else v) then (if h < v then h else v) else 0
theorem s_bounded {X : zXs} {d : Nat} {L : List zSh} {μ : zMem} {v h : Int32} (hd : 1 ≤ d) : zF X d m_X6_bounded [.int v, .int h] L μ (some (.int (f_bnd v h))) μ := by
  refine zF.of mk_X6_bounded rfl ?_
  repeat first | refine zT.step ct_X6_bounded_ok ?_ | refine And.intro ⟨by decide, _, rfl⟩ ?_ | refine And.intro ⟨by decide, rfl⟩ ?_
  refine And.intro hd ?_
  repeat first | refine zT.step ct_X6_bounded_ok ?_ | refine And.intro ⟨by decide, _, rfl⟩ ?_ | refine And.intro ⟨by decide, rfl⟩ ?_
  refine And.intro hd ?_
  repeat first | refine zT.step ct_X6_bounded_ok ?_ | refine And.intro ⟨by decide, _, rfl⟩ ?_ | refine And.intro ⟨by decide, rfl⟩ ?_
  exact And.intro rfl (And.intro rfl rfl)
def f_bits (f t : Int32) : Int32 := 1 <<< (t &&& 31) - 1 <<< (f &&& 31)
theorem s_bits {X : zXs} {d : Nat} {L : List zSh} {μ : zMem} {f t : Int32} : zF X d m_X6_bits [.int f, .int t] L μ (some (.int (f_bits f t))) μ := by
  refine zF.of mk_X6_bits rfl ?_
  repeat first | refine zT.step ct_X6_bits_ok ?_ | refine And.intro ⟨by decide, _, rfl⟩ ?_ | refine And.intro ⟨by decide, rfl⟩ ?_
  exact And.intro rfl (And.intro rfl rfl)
theorem s_isHour {X : zXs} {d : Nat} {L : List zSh} {μ : zMem} {h : Int32} : zF X d m_X6_isHour [.int h] L μ (some (.int (f_b (decide (0 ≤ h ∧ h < 13))))) μ := by
  refine zF.of mk_X6_isHour rfl ?_
  repeat first | refine zT.step ct_X6_isHour_ok ?_ | refine And.intro ⟨by decide, _, rfl⟩ ?_ | refine And.intro ⟨by decide, rfl⟩ ?_
  refine And.intro (fun h1 => ?_) (fun h1 => ?_)
  · repeat first | refine zT.step ct_X6_isHour_ok ?_ | refine And.intro ⟨by decide, _, rfl⟩ ?_ | refine And.intro ⟨by decide, rfl⟩ ?_
    refine And.intro rfl (And.intro ?_ (And.intro rfl rfl))
    rw [f_b_f (by have h1 : h < 0 := h1; simp only [decide_eq_false_iff_not]; intro q; exact absurd q.1 (Int32.not_le.mpr h1))]
  · repeat first | refine zT.step ct_X6_isHour_ok ?_ | refine And.intro ⟨by decide, _, rfl⟩ ?_ | refine And.intro ⟨by decide, rfl⟩ ?_
    refine And.intro (fun h2 => ?_) (fun h2 => ?_)
    · repeat first | refine zT.step ct_X6_isHour_ok ?_ | refine And.intro ⟨by decide, _, rfl⟩ ?_ | refine And.intro ⟨by decide, rfl⟩ ?_
      refine And.intro rfl (And.intro ?_ (And.intro rfl rfl))
      rw [f_b_f (by have h2 : 13 ≤ h := h2; simp only [decide_eq_false_iff_not]; intro q; exact absurd q.2 (Int32.not_lt.mpr h2))]
    · repeat first | refine zT.step ct_X6_isHour_ok ?_ | refine And.intro ⟨by decide, _, rfl⟩ ?_ | refine And.intro ⟨by decide, rfl⟩ ?_
      refine And.intro rfl (And.intro ?_ (And.intro rfl rfl))
      rw [f_b_t (by have h1 : ¬ h < 0 := h1; have h2 : ¬ 13 ≤ h := h2; exact decide_eq_true ⟨Int32.not_lt.mp h1, Int32.not_le.mp h2⟩)]
theorem s_has {X : zXs} {d : Nat} {σ : zSg} {τ : Nat → Nat → Int64} {r : Option Nat} {t : Int32} : zF X d m_X4_has [.ref 1, .int t] L0 (mm σ τ r) (some (.int (f_b (decide (0 ≤ t ∧ t < σ 1 2 ∧ t < 8))))) (mm σ τ r) := by
  refine zF.of mk_X4_has rfl ?_
  repeat first | refine zT.step ct_X4_has_ok ?_ | refine And.intro ⟨by decide, _, rfl⟩ ?_ | refine And.intro ⟨by decide, rfl⟩ ?_
  refine And.intro (fun h1 => ?_) (fun h1 => ?_)
  · repeat first | refine zT.step ct_X4_has_ok ?_ | refine And.intro ⟨by decide, _, rfl⟩ ?_ | refine And.intro ⟨by decide, rfl⟩ ?_
    refine And.intro rfl (And.intro ?_ (And.intro rfl rfl))
    rw [f_b_f (by have h1 : t < 0 := h1; simp only [decide_eq_false_iff_not]; intro q; exact absurd q.1 (Int32.not_le.mpr h1))]
  · repeat first | refine zT.step ct_X4_has_ok ?_ | refine And.intro ⟨by decide, _, rfl⟩ ?_ | refine And.intro ⟨by decide, rfl⟩ ?_
    refine And.intro (fun h2 => ?_) (fun h2 => ?_)
    · repeat first | refine zT.step ct_X4_has_ok ?_ | refine And.intro ⟨by decide, _, rfl⟩ ?_ | refine And.intro ⟨by decide, rfl⟩ ?_
      refine And.intro rfl (And.intro ?_ (And.intro rfl rfl))
      rw [f_b_f (by have h2 : σ 1 2 ≤ t := h2; simp only [decide_eq_false_iff_not]; intro q; exact absurd q.2.1 (Int32.not_lt.mpr h2))]
    · repeat first | refine zT.step ct_X4_has_ok ?_ | refine And.intro ⟨by decide, _, rfl⟩ ?_ | refine And.intro ⟨by decide, rfl⟩ ?_
      refine And.intro (fun h3 => ?_) (fun h3 => ?_)
      · repeat first | refine zT.step ct_X4_has_ok ?_ | refine And.intro ⟨by decide, _, rfl⟩ ?_ | refine And.intro ⟨by decide, rfl⟩ ?_
        refine And.intro rfl (And.intro ?_ (And.intro rfl rfl))
        rw [f_b_f (by have h3 : 8 ≤ t := h3; simp only [decide_eq_false_iff_not]; intro q; exact absurd q.2.2 (Int32.not_lt.mpr h3))]
      · repeat first | refine zT.step ct_X4_has_ok ?_ | refine And.intro ⟨by decide, _, rfl⟩ ?_ | refine And.intro ⟨by decide, rfl⟩ ?_
        refine And.intro rfl (And.intro ?_ (And.intro rfl rfl))
        rw [f_b_t (by have h1 : ¬ t < 0 := h1; have h2 : ¬ σ 1 2 ≤ t := h2; have h3 : ¬ 8 ≤ t := h3; exact decide_eq_true ⟨Int32.not_lt.mp h1, Int32.not_le.mp h2, Int32.not_le.mp h3⟩)]
theorem s_hides {X : zXs} {d a : Nat} {L : List zSh} {μ : zMem} (ha : a < 1000000 ∧ ∃ w, L[a]? = some (5, w)) : zF X d m_X5_hides [.ref a] L μ (some (.int (f_b (decide (¬ μ.1 a 0 = 3))))) μ := by
  refine zF.of mk_X5_hides rfl ?_
  repeat first | refine zT.step ct_X5_hides_ok ?_ | refine And.intro ⟨by decide, _, rfl⟩ ?_ | refine And.intro ⟨by decide, rfl⟩ ?_
  refine And.intro ha ?_
  repeat first | refine zT.step ct_X5_hides_ok ?_ | refine And.intro ⟨by decide, _, rfl⟩ ?_ | refine And.intro ⟨by decide, rfl⟩ ?_
  refine And.intro (fun h1 => ?_) (fun h1 => ?_)
  · repeat first | refine zT.step ct_X5_hides_ok ?_ | refine And.intro ⟨by decide, _, rfl⟩ ?_ | refine And.intro ⟨by decide, rfl⟩ ?_
    refine And.intro rfl (And.intro ?_ (And.intro rfl rfl))
    rw [f_b_f (by have h1 : μ.1 a 0 = 3 := h1; simp [h1])]
  · repeat first | refine zT.step ct_X5_hides_ok ?_ | refine And.intro ⟨by decide, _, rfl⟩ ?_ | refine And.intro ⟨by decide, rfl⟩ ?_
    refine And.intro rfl (And.intro ?_ (And.intro rfl rfl))
    rw [f_b_t (by have h1 : ¬ μ.1 a 0 = 3 := h1; exact decide_eq_true h1)]
/-- a switch whose number is known -/
theorem z_tin {x c : Int32} {lo hi : Int} {ts : List Nat} {dt : Nat} {K : Nat → Prop} (hx : x = c) (j0 t0 : Nat) (hc : (decide (c.toInt = lo + (j0 : Int)) && (!decide (c.toInt < lo ∨ hi < c.toInt))) = true) (ht : ts[j0]? = some t0) (h : K t0) : ((x.toInt < lo ∨ hi < x.toInt) → K dt) ∧ ∀ (j t : Nat), x.toInt = lo + (j : Int) → ts[j]? = some t → K t := by
  subst hx
  rw [Bool.and_eq_true, decide_eq_true_eq, Bool.not_eq_true', decide_eq_false_iff_not] at hc
  refine ⟨fun q => absurd q hc.2, fun j t hj hjt => ?_⟩
  have : j = j0 := by omega
  subst this
  cases ht.symm.trans hjt
  exact h
theorem z_tout {x : Int32} {lo hi : Int} {ts : List Nat} {dt : Nat} {K : Nat → Prop} (hx : ∀ j : Nat, j < ts.length → ¬ x.toInt = lo + (j : Int)) (h : K dt) : ((x.toInt < lo ∨ hi < x.toInt) → K dt) ∧ ∀ (j t : Nat), x.toInt = lo + (j : Int) → ts[j]? = some t → K t :=
  ⟨fun _ => h, fun j t hj hjt => absurd hj (hx j (List.getElem?_eq_some_iff.mp hjt).1)⟩
theorem z_ne5 {x : Int32} (h1 : ¬ x = 1) (h2 : ¬ x = 2) (h3 : ¬ x = 3) (h4 : ¬ x = 4) (h5 : ¬ x = 5) : ∀ j : Nat, j < 5 → ¬ x.toInt = 1 + (j : Int) := by
  intro j hj hx
  have e : x = Int32.ofInt (1 + (j : Int)) := by rw [← hx, Int32.ofInt_toInt]
  match j, hj with
  | 0, _ => exact h1 e
  | 1, _ => exact h2 e
  | 2, _ => exact h3 e
  | 3, _ => exact h4 e
  | 4, _ => exact h5 e
def f_len (k n p : Int32) : Int32 := if k = 1 then p - (n - n / 3 * 3) else if k = 2 then p + 2 else if k = 3 then (p - (n - n / 3 * 3)) / 2 else if k = 4 then 2 * (p + 2) else if k = 5 then 0 else p
def f_reach (k n h s : Int32) : Int32 := f_bnd (f_len k n (h * s / 4)) 29
theorem s_reach {X : zXs} {d a : Nat} {L : List zSh} {μ : zMem} {s : Int32} (hd : 2 ≤ d) (ha : a < 1000000 ∧ ∃ w, L[a]? = some (5, w)) : zF X d m_X5_reach [.ref a, .int s] L μ (some (.int (f_reach (μ.1 a 0) (μ.1 a 1) (μ.1 a 2) s))) μ := by
  refine zF.of mk_X5_reach rfl ?_
  refine zT.step ct_X5_reach_ok ?_
  refine zT.step ct_X5_reach_ok ?_
  refine And.intro ha ?_
  refine zT.step ct_X5_reach_ok ?_
  refine zT.step ct_X5_reach_ok ?_
  refine zT.step ct_X5_reach_ok ?_
  refine zT.step ct_X5_reach_ok ?_
  refine And.intro (by decide) ?_
  refine zT.step ct_X5_reach_ok ?_
  refine zT.step ct_X5_reach_ok ?_
  refine zT.step ct_X5_reach_ok ?_
  refine And.intro ha ?_
  refine zT.step ct_X5_reach_ok ?_
  have fin : ∀ v : Int32, v = f_len (μ.1 a 0) (μ.1 a 1) (μ.1 a 2 * s / 4) → zT X d m_X5_reach (fun w L2 μ2 => w = some (.int (f_reach (μ.1 a 0) (μ.1 a 1) (μ.1 a 2) s)) ∧ L2 = L ∧ μ2 = μ) 0 0 97 [some (.ref a), some (.int s), some (.int (μ.1 a 2 * s / 4)), some (.int v)] [] L μ := by
    intro v hv
    refine zT.step ct_X5_reach_ok ?_
    refine zT.step ct_X5_reach_ok ?_
    refine zT.step ct_X5_reach_ok ?_
    refine And.intro (by omega) (zF.use (s_bounded (by omega)) ?_)
    refine zT.step ct_X5_reach_ok ?_
    exact And.intro (by rw [hv]; rfl) (And.intro rfl rfl)
  by_cases h1 : μ.1 a 0 = 1
  · refine z_tin (K := fun t => zT _ _ _ _ _ _ t _ _ _ _) h1 0 48 rfl rfl ?_
    refine zT.step ct_X5_reach_ok ?_
    refine zT.step ct_X5_reach_ok ?_
    refine zT.step ct_X5_reach_ok ?_
    refine And.intro ha ?_
    refine zT.step ct_X5_reach_ok ?_
    refine zT.step ct_X5_reach_ok ?_
    refine And.intro (by decide) ?_
    refine zT.step ct_X5_reach_ok ?_
    refine zT.step ct_X5_reach_ok ?_
    refine zT.step ct_X5_reach_ok ?_
    exact fin _ (by simp [f_len, h1])
  by_cases h2 : μ.1 a 0 = 2
  · refine z_tin (K := fun t => zT _ _ _ _ _ _ t _ _ _ _) h2 1 60 rfl rfl ?_
    refine zT.step ct_X5_reach_ok ?_
    refine zT.step ct_X5_reach_ok ?_
    refine zT.step ct_X5_reach_ok ?_
    refine zT.step ct_X5_reach_ok ?_
    refine zT.step ct_X5_reach_ok ?_
    exact fin _ (by simp [f_len, h2])
  by_cases h3 : μ.1 a 0 = 3
  · refine z_tin (K := fun t => zT _ _ _ _ _ _ t _ _ _ _) h3 2 67 rfl rfl ?_
    refine zT.step ct_X5_reach_ok ?_
    refine zT.step ct_X5_reach_ok ?_
    refine zT.step ct_X5_reach_ok ?_
    refine And.intro ha ?_
    refine zT.step ct_X5_reach_ok ?_
    refine zT.step ct_X5_reach_ok ?_
    refine And.intro (by decide) ?_
    refine zT.step ct_X5_reach_ok ?_
    refine zT.step ct_X5_reach_ok ?_
    refine zT.step ct_X5_reach_ok ?_
    refine And.intro (by decide) ?_
    refine zT.step ct_X5_reach_ok ?_
    refine zT.step ct_X5_reach_ok ?_
    exact fin _ (by simp [f_len, h3])
  by_cases h4 : μ.1 a 0 = 4
  · refine z_tin (K := fun t => zT _ _ _ _ _ _ t _ _ _ _) h4 3 81 rfl rfl ?_
    refine zT.step ct_X5_reach_ok ?_
    refine zT.step ct_X5_reach_ok ?_
    refine zT.step ct_X5_reach_ok ?_
    refine zT.step ct_X5_reach_ok ?_
    refine zT.step ct_X5_reach_ok ?_
    refine zT.step ct_X5_reach_ok ?_
    refine zT.step ct_X5_reach_ok ?_
    exact fin _ (by simp [f_len, h4])
  by_cases h5 : μ.1 a 0 = 5
  · refine z_tin (K := fun t => zT _ _ _ _ _ _ t _ _ _ _) h5 4 90 rfl rfl ?_
    refine zT.step ct_X5_reach_ok ?_
    refine zT.step ct_X5_reach_ok ?_
    refine zT.step ct_X5_reach_ok ?_
    exact fin _ (by simp [f_len, h5])
  refine z_tout (K := fun t => zT _ _ _ _ _ _ t _ _ _ _) (z_ne5 h1 h2 h3 h4 h5) ?_
  refine zT.step ct_X5_reach_ok ?_
  refine zT.step ct_X5_reach_ok ?_
  exact fin _ (by simp [f_len, h1, h2, h3, h4, h5])
def f_ow (k n l v p : Int32) : Int32 := if k = 1 then (if n < p then n else p) else if k = 2 then 2 * p else if k = 3 then (if 4 ≤ l then (if n < p then n else p) else 0) else if k = 4 then 2 * p - n else if k = 5 then v else p
def f_owed (k n l v : Int32) : Int32 := f_bnd (f_ow k n l v (l * v)) 9999
theorem s_owed {X : zXs} {d a : Nat} {L : List zSh} {μ : zMem} {l v : Int32} (hd : 2 ≤ d) (ha : a < 1000000 ∧ ∃ w, L[a]? = some (5, w)) : zF X d m_X5_owed [.ref a, .int l, .int v] L μ (some (.int (f_owed (μ.1 a 0) (μ.1 a 1) l v))) μ := by
  refine zF.of mk_X5_owed rfl ?_
  refine zT.step ct_X5_owed_ok ?_
  refine zT.step ct_X5_owed_ok ?_
  refine zT.step ct_X5_owed_ok ?_
  refine zT.step ct_X5_owed_ok ?_
  refine zT.step ct_X5_owed_ok ?_
  refine zT.step ct_X5_owed_ok ?_
  refine And.intro ha ?_
  refine zT.step ct_X5_owed_ok ?_
  have fin : ∀ w : Int32, w = f_ow (μ.1 a 0) (μ.1 a 1) l v (l * v) → zT X d m_X5_owed (fun w L2 μ2 => w = some (.int (f_owed (μ.1 a 0) (μ.1 a 1) l v)) ∧ L2 = L ∧ μ2 = μ) 0 0 109 [some (.ref a), some (.int l), some (.int v), some (.int (l * v)), some (.int w)] [] L μ := by
    intro w hw
    refine zT.step ct_X5_owed_ok ?_
    refine zT.step ct_X5_owed_ok ?_
    refine zT.step ct_X5_owed_ok ?_
    refine And.intro (by omega) (zF.use (s_bounded (by omega)) ?_)
    refine zT.step ct_X5_owed_ok ?_
    exact And.intro (by rw [hw]; rfl) (And.intro rfl rfl)
  by_cases h1 : μ.1 a 0 = 1
  · refine z_tin (K := fun t => zT _ _ _ _ _ _ t _ _ _ _) h1 0 44 rfl rfl ?_
    refine zT.step ct_X5_owed_ok ?_
    refine zT.step ct_X5_owed_ok ?_
    refine zT.step ct_X5_owed_ok ?_
    refine And.intro ha ?_
    refine zT.step ct_X5_owed_ok ?_
    refine And.intro (by omega) ?_
    refine zT.step ct_X5_owed_ok ?_
    refine zT.step ct_X5_owed_ok ?_
    exact fin _ (by simp [f_ow, h1])
  by_cases h2 : μ.1 a 0 = 2
  · refine z_tin (K := fun t => zT _ _ _ _ _ _ t _ _ _ _) h2 1 57 rfl rfl ?_
    refine zT.step ct_X5_owed_ok ?_
    refine zT.step ct_X5_owed_ok ?_
    refine zT.step ct_X5_owed_ok ?_
    refine zT.step ct_X5_owed_ok ?_
    refine zT.step ct_X5_owed_ok ?_
    exact fin _ (by simp [f_ow, h2])
  by_cases h3 : μ.1 a 0 = 3
  · refine z_tin (K := fun t => zT _ _ _ _ _ _ t _ _ _ _) h3 2 65 rfl rfl ?_
    refine zT.step ct_X5_owed_ok ?_
    refine zT.step ct_X5_owed_ok ?_
    refine zT.step ct_X5_owed_ok ?_
    refine And.intro (fun q => ?_) (fun q => ?_)
    · refine zT.step ct_X5_owed_ok ?_
      refine zT.step ct_X5_owed_ok ?_
      refine zT.step ct_X5_owed_ok ?_
      refine And.intro ha ?_
      refine zT.step ct_X5_owed_ok ?_
      refine And.intro (by omega) ?_
      refine zT.step ct_X5_owed_ok ?_
      refine zT.step ct_X5_owed_ok ?_
      exact fin _ (by have q : 4 ≤ l := q; simp [f_ow, h3, q])
    · refine zT.step ct_X5_owed_ok ?_
      refine zT.step ct_X5_owed_ok ?_
      refine zT.step ct_X5_owed_ok ?_
      refine zT.step ct_X5_owed_ok ?_
      exact fin _ (by have q : ¬ 4 ≤ l := q; simp [f_ow, h3, q])
  by_cases h4 : μ.1 a 0 = 4
  · refine z_tin (K := fun t => zT _ _ _ _ _ _ t _ _ _ _) h4 3 87 rfl rfl ?_
    refine zT.step ct_X5_owed_ok ?_
    refine zT.step ct_X5_owed_ok ?_
    refine zT.step ct_X5_owed_ok ?_
    refine zT.step ct_X5_owed_ok ?_
    refine zT.step ct_X5_owed_ok ?_
    refine And.intro ha ?_
    refine zT.step ct_X5_owed_ok ?_
    refine zT.step ct_X5_owed_ok ?_
    refine zT.step ct_X5_owed_ok ?_
    exact fin _ (by simp [f_ow, h4])
  by_cases h5 : μ.1 a 0 = 5
  · refine z_tin (K := fun t => zT _ _ _ _ _ _ t _ _ _ _) h5 4 100 rfl rfl ?_
    refine zT.step ct_X5_owed_ok ?_
    refine zT.step ct_X5_owed_ok ?_
    refine zT.step ct_X5_owed_ok ?_
    exact fin _ (by simp [f_ow, h5])
  refine z_tout (K := fun t => zT _ _ _ _ _ _ t _ _ _ _) (z_ne5 h1 h2 h3 h4 h5) ?_
  refine zT.step ct_X5_owed_ok ?_
  refine zT.step ct_X5_owed_ok ?_
  exact fin _ (by simp [f_ow, h1, h2, h3, h4, h5])
