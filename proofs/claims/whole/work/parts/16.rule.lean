/-! rows of the memory; numbers; Rule -/
def z_row (σ : zSg) (a : Nat) (f : Nat → Int32) : zSg := fun b j => if b = a then f j else σ b j
theorem z_row_s (σ : zSg) (a : Nat) (f : Nat → Int32) : z_row σ a f a = f := funext fun _ => if_pos rfl
theorem z_row_n (σ : zSg) (a b : Nat) (f : Nat → Int32) (h : b ≠ a) : z_row σ a f b = σ b := funext fun _ => if_neg h
theorem z_row_id (σ : zSg) (a : Nat) : z_row σ a (σ a) = σ := by
  funext b j
  unfold z_row
  by_cases h : b = a
  · rw [if_pos h, h]
  · rw [if_neg h]
theorem z_row_up (σ : zSg) (a : Nat) (f : Nat → Int32) (k : Nat) (v : Int32) : z_up (z_row σ a f) a k v = z_row σ a (upd f k v) := by
  funext b j
  unfold z_up z_row upd
  by_cases h : b = a
  · subst h
    by_cases h2 : j = k <;> simp [h2]
  · simp [h]
theorem z_up_row (σ : zSg) (a k : Nat) (v : Int32) : z_up σ a k v = z_row σ a (upd (σ a) k v) := by
  rw [← z_row_up, z_row_id]
theorem z_row_row (σ : zSg) (a : Nat) (f g : Nat → Int32) : z_row (z_row σ a f) a g = z_row σ a g := by
  funext b j
  unfold z_row
  by_cases h : b = a <;> simp [h]
theorem i_lt {x y : Int32} {a b : Nat} (hx : x = nI a) (hy : y = nI b) (ha : a < 2 ^ 31) (hb : b < 2 ^ 31) : x < y ↔ a < b := by subst hx; subst hy; exact nI_ltI ha hb
theorem i_le {x y : Int32} {a b : Nat} (hx : x = nI a) (hy : y = nI b) (ha : a < 2 ^ 31) (hb : b < 2 ^ 31) : x ≤ y ↔ a ≤ b := by subst hx; subst hy; exact nI_leI ha hb
theorem i_eq {x y : Int32} {a b : Nat} (hx : x = nI a) (hy : y = nI b) (ha : a < 2 ^ 31) (hb : b < 2 ^ 31) : x = y ↔ a = b := by subst hx; subst hy; exact nI_eq ha hb
def f_al (s a : Int32) : Int32 := if s = -19 then -a else if a = 0 then 1 else 0
theorem s_alone {X : zXs} {d : Nat} {L : List zSh} {μ : zMem} {s a : Int32} : zF X d m_X2_alone [.int s, .int a] L μ (some (.int (f_al s a))) μ := by
  refine zF.of mk_X2_alone rfl ?_
  refine zT.step ct_X2_alone_ok ?_
  refine zT.step ct_X2_alone_ok ?_
  refine zT.step ct_X2_alone_ok ?_
  refine And.intro (fun h => ?_) (fun h => ?_)
  · refine zT.step ct_X2_alone_ok ?_
    refine zT.step ct_X2_alone_ok ?_
    refine zT.step ct_X2_alone_ok ?_
    exact And.intro (by have h : s = -19 := h; simp [f_al, h]) (And.intro rfl rfl)
  · have h : ¬ s = -19 := h
    refine zT.step ct_X2_alone_ok ?_
    refine zT.step ct_X2_alone_ok ?_
    refine And.intro (fun h2 => ?_) (fun h2 => ?_)
    · refine zT.step ct_X2_alone_ok ?_
      refine zT.step ct_X2_alone_ok ?_
      refine zT.step ct_X2_alone_ok ?_
      exact And.intro (by have h2 : a = 0 := h2; simp [f_al, h, h2]) (And.intro rfl rfl)
    · refine zT.step ct_X2_alone_ok ?_
      refine zT.step ct_X2_alone_ok ?_
      exact And.intro (by have h2 : ¬ a = 0 := h2; simp [f_al, h, h2]) (And.intro rfl rfl)
def f_jo (s a b : Int32) : Int32 := if s = -16 then a - b else if s = -15 then a + b else if s = -14 then (if a = b then 1 else 0) else if s = -13 then (if a < b then 1 else 0) else if s = -12 then (if ¬ a = 0 ∧ ¬ b = 0 then 1 else 0) else if s = -11 then (if ¬ a = 0 ∨ ¬ b = 0 then 1 else 0) else a * b
theorem z_ne6 {x : Int32} (h1 : ¬ x = -16) (h2 : ¬ x = -15) (h3 : ¬ x = -14) (h4 : ¬ x = -13) (h5 : ¬ x = -12) (h6 : ¬ x = -11) : ∀ j : Nat, j < 6 → ¬ x.toInt = -16 + (j : Int) := by
  intro j hj hx
  have e : x = Int32.ofInt (-16 + (j : Int)) := by rw [← hx, Int32.ofInt_toInt]
  match j, hj with
  | 0, _ => exact h1 e
  | 1, _ => exact h2 e
  | 2, _ => exact h3 e
  | 3, _ => exact h4 e
  | 4, _ => exact h5 e
  | 5, _ => exact h6 e
theorem s_joined {X : zXs} {d : Nat} {L : List zSh} {μ : zMem} {s a b : Int32} : zF X d m_X2_joined [.int s, .int a, .int b] L μ (some (.int (f_jo s a b))) μ := by
  refine zF.of mk_X2_joined rfl ?_
  refine zT.step ct_X2_joined_ok ?_
  refine zT.step ct_X2_joined_ok ?_
  by_cases h1 : s = -16
  · refine z_tin (K := fun t => zT _ _ _ _ _ _ t _ _ _ _) h1 0 94 rfl rfl ?_
    refine zT.step ct_X2_joined_ok ?_
    refine zT.step ct_X2_joined_ok ?_
    refine zT.step ct_X2_joined_ok ?_
    refine zT.step ct_X2_joined_ok ?_
    exact And.intro (by simp [f_jo, h1]) (And.intro rfl rfl)
  by_cases h2 : s = -15
  · refine z_tin (K := fun t => zT _ _ _ _ _ _ t _ _ _ _) h2 1 90 rfl rfl ?_
    refine zT.step ct_X2_joined_ok ?_
    refine zT.step ct_X2_joined_ok ?_
    refine zT.step ct_X2_joined_ok ?_
    refine zT.step ct_X2_joined_ok ?_
    exact And.intro (by simp [f_jo, h2]) (And.intro rfl rfl)
  by_cases h3 : s = -14
  · refine z_tin (K := fun t => zT _ _ _ _ _ _ t _ _ _ _) h3 2 79 rfl rfl ?_
    refine zT.step ct_X2_joined_ok ?_
    refine zT.step ct_X2_joined_ok ?_
    refine zT.step ct_X2_joined_ok ?_
    refine And.intro (fun h => ?_) (fun h => ?_)
    · refine zT.step ct_X2_joined_ok ?_
      refine zT.step ct_X2_joined_ok ?_
      refine zT.step ct_X2_joined_ok ?_
      exact And.intro (by have h : a = b := h; simp [f_jo, h3, h]) (And.intro rfl rfl)
    · refine zT.step ct_X2_joined_ok ?_
      refine zT.step ct_X2_joined_ok ?_
      exact And.intro (by have h : ¬ a = b := h; simp [f_jo, h3, h]) (And.intro rfl rfl)
  by_cases h4 : s = -13
  · refine z_tin (K := fun t => zT _ _ _ _ _ _ t _ _ _ _) h4 3 68 rfl rfl ?_
    refine zT.step ct_X2_joined_ok ?_
    refine zT.step ct_X2_joined_ok ?_
    refine zT.step ct_X2_joined_ok ?_
    refine And.intro (fun h => ?_) (fun h => ?_)
    · refine zT.step ct_X2_joined_ok ?_
      refine zT.step ct_X2_joined_ok ?_
      exact And.intro (by have h : b ≤ a := h; simp [f_jo, h4, Int32.not_lt.mpr h]) (And.intro rfl rfl)
    · refine zT.step ct_X2_joined_ok ?_
      refine zT.step ct_X2_joined_ok ?_
      refine zT.step ct_X2_joined_ok ?_
      exact And.intro (by have h : ¬ b ≤ a := h; simp [f_jo, h4, Int32.not_le.mp h]) (And.intro rfl rfl)
  by_cases h5 : s = -12
  · refine z_tin (K := fun t => zT _ _ _ _ _ _ t _ _ _ _) h5 4 54 rfl rfl ?_
    refine zT.step ct_X2_joined_ok ?_
    refine zT.step ct_X2_joined_ok ?_
    refine And.intro (fun h => ?_) (fun h => ?_)
    · refine zT.step ct_X2_joined_ok ?_
      refine zT.step ct_X2_joined_ok ?_
      exact And.intro (by have h : a = 0 := h; simp [f_jo, h5, h]) (And.intro rfl rfl)
    · have h : ¬ a = 0 := h
      refine zT.step ct_X2_joined_ok ?_
      refine zT.step ct_X2_joined_ok ?_
      refine And.intro (fun q => ?_) (fun q => ?_)
      · refine zT.step ct_X2_joined_ok ?_
        refine zT.step ct_X2_joined_ok ?_
        exact And.intro (by have q : b = 0 := q; simp [f_jo, h5, q]) (And.intro rfl rfl)
      · refine zT.step ct_X2_joined_ok ?_
        refine zT.step ct_X2_joined_ok ?_
        refine zT.step ct_X2_joined_ok ?_
        exact And.intro (by have q : ¬ b = 0 := q; simp [f_jo, h5, q, h]) (And.intro rfl rfl)
  by_cases h6 : s = -11
  · refine z_tin (K := fun t => zT _ _ _ _ _ _ t _ _ _ _) h6 5 40 rfl rfl ?_
    refine zT.step ct_X2_joined_ok ?_
    refine zT.step ct_X2_joined_ok ?_
    refine And.intro (fun h => ?_) (fun h => ?_)
    · have h : a = 0 := h
      refine zT.step ct_X2_joined_ok ?_
      refine zT.step ct_X2_joined_ok ?_
      refine And.intro (fun q => ?_) (fun q => ?_)
      · refine zT.step ct_X2_joined_ok ?_
        refine zT.step ct_X2_joined_ok ?_
        exact And.intro (by have q : b = 0 := q; simp [f_jo, h6, q, h]) (And.intro rfl rfl)
      · refine zT.step ct_X2_joined_ok ?_
        refine zT.step ct_X2_joined_ok ?_
        refine zT.step ct_X2_joined_ok ?_
        exact And.intro (by have q : ¬ b = 0 := q; simp [f_jo, h6, q]) (And.intro rfl rfl)
    · refine zT.step ct_X2_joined_ok ?_
      refine zT.step ct_X2_joined_ok ?_
      refine zT.step ct_X2_joined_ok ?_
      exact And.intro (by have h : ¬ a = 0 := h; simp [f_jo, h6, h]) (And.intro rfl rfl)
  refine z_tout (K := fun t => zT _ _ _ _ _ _ t _ _ _ _) (z_ne6 h1 h2 h3 h4 h5 h6) ?_
  refine zT.step ct_X2_joined_ok ?_
  refine zT.step ct_X2_joined_ok ?_
  refine zT.step ct_X2_joined_ok ?_
  refine zT.step ct_X2_joined_ok ?_
  exact And.intro (by simp [f_jo, h1, h2, h3, h4, h5, h6]) (And.intro rfl rfl)
/-- a step of a rule: the stack's contents, how many -/
def r_step (vals : Nat → Int32) (s : Int32) (p : (Nat → Int32) × Nat) : (Nat → Int32) × Nat :=
  if s < -6 then (if s = -18 ∨ s = -19 then (if 1 ≤ p.2 then (upd p.1 (p.2 - 1) (f_al s (p.1 (p.2 - 1))), p.2) else p)
    else if 2 ≤ p.2 then (upd p.1 (p.2 - 2) (f_jo s (p.1 (p.2 - 2)) (p.1 (p.2 - 1))), p.2 - 1) else p)
  else if p.2 < 160 then (upd p.1 p.2 (if s < 0 then vals (-1 - s).toNatClampNeg else s), p.2 + 1) else p
def r_run (vals st : Nat → Int32) : Nat → Nat → (Nat → Int32) × Nat → (Nat → Int32) × Nat
  | 0, _, p => p
  | n + 1, k, p => r_run vals st n (k + 1) (r_step vals (st k) p)
def r_top (p : (Nat → Int32) × Nat) : Int32 := if 0 < p.2 then p.1 0 else 0
theorem r_top_le {vals : Nat → Int32} {s : Int32} {p : (Nat → Int32) × Nat} (h : p.2 ≤ 160) : (r_step vals s p).2 ≤ 160 := by
  unfold r_step
  repeat' split
  all_goals (try dsimp only); omega
theorem z_vix {s : Int32} (h1 : ¬ s < -6) (h2 : s < 0) : ∃ j, j < 6 ∧ -1 - s = nI j := by
  have e1 : ¬ s.toInt < -6 := fun q => h1 (Int32.lt_iff_toInt_lt.mpr (by simpa using q))
  have e2 : s.toInt < 0 := by simpa using Int32.lt_iff_toInt_lt.mp h2
  have e3 : s = Int32.ofInt s.toInt := (Int32.ofInt_toInt s).symm
  have : s.toInt = -6 ∨ s.toInt = -5 ∨ s.toInt = -4 ∨ s.toInt = -3 ∨ s.toInt = -2 ∨ s.toInt = -1 := by omega
  rcases this with q | q | q | q | q | q <;> rw [q] at e3 <;> subst e3
  · exact ⟨5, by decide, by decide⟩
  · exact ⟨4, by decide, by decide⟩
  · exact ⟨3, by decide, by decide⟩
  · exact ⟨2, by decide, by decide⟩
  · exact ⟨1, by decide, by decide⟩
  · exact ⟨0, by decide, by decide⟩
