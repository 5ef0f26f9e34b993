/-! the reference's leaves: in, within, byteAt, isThing, isHour, isSheet .. -/
theorem lt64 (x y : Int64) : lg_cmp x y < 0 ↔ x.toInt < y.toInt := (lg_cmp_lt x y).trans Int64.lt_iff_toInt_lt
theorem gt64 (x y : Int64) : 0 < lg_cmp x y ↔ y.toInt < x.toInt := (lg_cmp_gt x y).trans Int64.lt_iff_toInt_lt
theorem t_in {X : zXs} {d : Nat} {L : List zSh} {μ : zMem} {v lo hi : Int64} : zF X d m_X7_in [.long v, .long lo, .long hi] L μ (some (.int (f_b (decide (lo.toInt ≤ v.toInt ∧ v.toInt ≤ hi.toInt))))) μ := by
  refine zF.of mk_X7_in rfl ?_
  repeat first | refine zT.step ct_X7_in_ok ?_ | refine And.intro ⟨by decide, _, rfl⟩ ?_ | refine And.intro ⟨by decide, rfl⟩ ?_
  refine And.intro (fun h => ?_) (fun h => ?_)
  · have h : v.toInt < lo.toInt := (lt64 _ _).mp h
    repeat first | refine zT.step ct_X7_in_ok ?_ | refine And.intro ⟨by decide, _, rfl⟩ ?_ | refine And.intro ⟨by decide, rfl⟩ ?_
    exact And.intro rfl (And.intro (by rw [f_b_f (decide_eq_false (by omega))]) (And.intro rfl rfl))
  · have h : ¬ v.toInt < lo.toInt := fun q => h ((lt64 _ _).mpr q)
    repeat first | refine zT.step ct_X7_in_ok ?_ | refine And.intro ⟨by decide, _, rfl⟩ ?_ | refine And.intro ⟨by decide, rfl⟩ ?_
    refine And.intro (fun h2 => ?_) (fun h2 => ?_)
    · have h2 : hi.toInt < v.toInt := (gt64 _ _).mp h2
      repeat first | refine zT.step ct_X7_in_ok ?_ | refine And.intro ⟨by decide, _, rfl⟩ ?_ | refine And.intro ⟨by decide, rfl⟩ ?_
      exact And.intro rfl (And.intro (by rw [f_b_f (decide_eq_false (by omega))]) (And.intro rfl rfl))
    · have h2 : ¬ hi.toInt < v.toInt := fun q => h2 ((gt64 _ _).mpr q)
      repeat first | refine zT.step ct_X7_in_ok ?_ | refine And.intro ⟨by decide, _, rfl⟩ ?_ | refine And.intro ⟨by decide, rfl⟩ ?_
      exact And.intro rfl (And.intro (by rw [f_b_t (decide_eq_true (by omega))]) (And.intro rfl rfl))
/-- in() of ints between two small numbers -/
theorem t_inI {X : zXs} {d : Nat} {L : List zSh} {μ : zMem} {x : Int32} {lo hi : Int64} {a b : Int32} (ha : lo.toInt = a.toInt) (hb : hi.toInt = b.toInt) : zF X d m_X7_in [.long x.toInt64, .long lo, .long hi] L μ (some (.int (f_b (decide (a ≤ x ∧ x ≤ b))))) μ := by
  have := t_in (X := X) (d := d) (L := L) (μ := μ) (v := x.toInt64) (lo := lo) (hi := hi)
  have e : decide (lo.toInt ≤ x.toInt64.toInt ∧ x.toInt64.toInt ≤ hi.toInt) = decide (a ≤ x ∧ x ≤ b) := by
    rw [Int32.toInt_toInt64, ha, hb, decide_eq_decide, Int32.le_iff_toInt_le, Int32.le_iff_toInt_le]
  rw [e] at this
  exact this
theorem rg_le {x : Int32} {m : Nat} (hm : m + 1 < 2 ^ 31) : decide ((0 : Int32) ≤ x ∧ x ≤ nI m) = rg x (m + 1) := by
  unfold rg
  rw [decide_eq_decide, le_lt hm]
theorem rg_lem {x : Int32} {n : Nat} (hn : n ≤ 1000) : decide ((0 : Int32) ≤ x ∧ x ≤ nI n - 1) = rg x n := by
  cases n with
  | zero =>
    unfold rg
    rw [decide_eq_decide]
    constructor
    · intro q
      have h1 : x ≤ -1 := q.2
      have h2 := Int32.le_iff_toInt_le.mp h1
      have h3 := Int32.le_iff_toInt_le.mp q.1
      have e1 : (-1 : Int32).toInt = -1 := by decide
      have e2 : (0 : Int32).toInt = 0 := by decide
      omega
    · intro q
      exact absurd q.2 (Int32.not_lt.mpr q.1)
  | succ n => rw [nI_pred, rg_le (by omega)]
theorem t_inR {X : zXs} {d m : Nat} {L : List zSh} {μ : zMem} {x : Int32} {hi : Int64} (hm : m + 1 < 2 ^ 31) (hh : hi.toInt = (nI m).toInt) : zF X d m_X7_in [.long x.toInt64, .long 0, .long hi] L μ (some (.int (f_b (rg x (m + 1))))) μ := by
  have := t_inI (X := X) (d := d) (L := L) (μ := μ) (x := x) (lo := 0) (hi := hi) (a := 0) (b := nI m) rfl hh
  rw [rg_le hm] at this
  exact this
theorem t_isHour {X : zXs} {d : Nat} {L : List zSh} {μ : zMem} {h : Int32} (hd : 1 ≤ d) : zF X d m_X7_isHour [.int h] L μ (some (.int (f_b (rg h 13)))) μ := by
  refine zF.of mk_X7_isHour rfl ?_
  repeat first | refine zT.step ct_X7_isHour_ok ?_ | refine And.intro ⟨by decide, _, rfl⟩ ?_ | refine And.intro ⟨by decide, rfl⟩ ?_
  refine And.intro hd (zF.use (t_inR (m := 12) (by decide) rfl) ?_)
  repeat first | refine zT.step ct_X7_isHour_ok ?_ | refine And.intro ⟨by decide, _, rfl⟩ ?_ | refine And.intro ⟨by decide, rfl⟩ ?_
  refine And.intro ?_ (And.intro rfl (And.intro rfl rfl))
  cases rg h 13 <;> rfl
theorem t_isSheet {X : zXs} {d : Nat} {L : List zSh} {μ : zMem} {h : Int32} (hd : 1 ≤ d) : zF X d m_X7_isSheet [.int h] L μ (some (.int (f_b (rg h 4)))) μ := by
  refine zF.of mk_X7_isSheet rfl ?_
  repeat first | refine zT.step ct_X7_isSheet_ok ?_ | refine And.intro ⟨by decide, _, rfl⟩ ?_ | refine And.intro ⟨by decide, rfl⟩ ?_
  refine And.intro hd (zF.use (t_inR (m := 3) (by decide) rfl) ?_)
  repeat first | refine zT.step ct_X7_isSheet_ok ?_ | refine And.intro ⟨by decide, _, rfl⟩ ?_ | refine And.intro ⟨by decide, rfl⟩ ?_
  refine And.intro ?_ (And.intro rfl (And.intro rfl rfl))
  cases rg h 4 <;> rfl
theorem t_isThing {X : zXs} {d n : Nat} {σ : zSg} {τ : Nat → Nat → Int64} {r : Option Nat} {x : Int32} (hd : 1 ≤ d) (hn : σ 50 11 = nI n) (h8 : n ≤ 8) : zF X d m_X7_isThing [.ref 50, .int x] L0 (mm σ τ r) (some (.int (f_b (rg x n)))) (mm σ τ r) := by
  have f1 := t_inI (X := X) (d := d - 1) (L := L0) (μ := mm σ τ r) (x := x) (lo := 0) (hi := (nI n - 1).toInt64) (a := 0) (b := nI n - 1) rfl (Int32.toInt_toInt64 _)
  rw [rg_lem (by omega)] at f1
  refine zF.of mk_X7_isThing rfl ?_
  refine zT.step ct_X7_isThing_ok ?_
  refine zT.step ct_X7_isThing_ok ?_
  refine zT.step ct_X7_isThing_ok ?_
  refine zT.step ct_X7_isThing_ok ?_
  refine zT.step ct_X7_isThing_ok ?_
  refine And.intro ⟨by decide, _, rfl⟩ ?_
  refine zT.step ct_X7_isThing_ok ?_
  refine zT.step ct_X7_isThing_ok ?_
  show zT X d m_X7_isThing _ 0 0 9 _ [.int (σ 50 11 - 1), .long 0, .long x.toInt64] _ _
  rw [hn]
  refine zT.step ct_X7_isThing_ok ?_
  refine zT.step ct_X7_isThing_ok ?_
  refine And.intro hd (zF.use f1 ?_)
  repeat first | refine zT.step ct_X7_isThing_ok ?_ | refine And.intro ⟨by decide, _, rfl⟩ ?_ | refine And.intro ⟨by decide, rfl⟩ ?_
  refine And.intro ?_ (And.intro rfl (And.intro rfl rfl))
  cases rg x n <;> rfl
theorem t_within {X : zXs} {d : Nat} {L : List zSh} {μ : zMem} {v m : Int32} (hm : 0 ≤ m) : zF X d m_X7_within [.int v, .int 0, .int m] L μ (some (.int (f_bnd v m))) μ := by
  have key : f_bnd v m = if v < 0 then 0 else if m < v then m else v := by
    unfold f_bnd
    have h0 : (0 : Int32).toInt = 0 := by decide
    simp only [Int32.lt_iff_toInt_lt, Int32.le_iff_toInt_le, h0] at hm ⊢
    by_cases h1 : v.toInt < 0
    · rw [if_pos h1, if_neg (by rw [if_neg (by omega)]; omega)]
    · rw [if_neg h1]
      by_cases h2 : m.toInt < v.toInt
      · rw [if_pos h2]
        by_cases h3 : 0 < m.toInt
        · rw [if_pos h3]
        · rw [if_neg h3]
          exact (Int32.toInt_inj.mp (by rw [h0]; omega))
      · rw [if_neg h2]
        by_cases h3 : 0 < v.toInt
        · rw [if_pos h3]
        · rw [if_neg h3]
          exact (Int32.toInt_inj.mp (by rw [h0]; omega))
  rw [key]
  refine zF.of mk_X7_within rfl ?_
  repeat first | refine zT.step ct_X7_within_ok ?_ | refine And.intro ⟨by decide, _, rfl⟩ ?_ | refine And.intro ⟨by decide, rfl⟩ ?_
  refine And.intro (fun h => ?_) (fun h => ?_)
  · have h : (0 : Int32) ≤ v := h
    rw [if_neg (Int32.not_lt.mpr h)]
    repeat first | refine zT.step ct_X7_within_ok ?_ | refine And.intro ⟨by decide, _, rfl⟩ ?_ | refine And.intro ⟨by decide, rfl⟩ ?_
    refine And.intro (fun h2 => ?_) (fun h2 => ?_)
    · have h2 : v ≤ m := h2
      rw [if_neg (Int32.not_lt.mpr h2)]
      repeat first | refine zT.step ct_X7_within_ok ?_ | refine And.intro ⟨by decide, _, rfl⟩ ?_ | refine And.intro ⟨by decide, rfl⟩ ?_
      exact And.intro rfl (And.intro rfl rfl)
    · have h2 : ¬ v ≤ m := h2
      rw [if_pos (Int32.not_le.mp h2)]
      repeat first | refine zT.step ct_X7_within_ok ?_ | refine And.intro ⟨by decide, _, rfl⟩ ?_ | refine And.intro ⟨by decide, rfl⟩ ?_
      exact And.intro rfl (And.intro rfl rfl)
  · have h : ¬ (0 : Int32) ≤ v := h
    rw [if_pos (Int32.not_le.mp h)]
    repeat first | refine zT.step ct_X7_within_ok ?_ | refine And.intro ⟨by decide, _, rfl⟩ ?_ | refine And.intro ⟨by decide, rfl⟩ ?_
    exact And.intro rfl (And.intro rfl rfl)
/-- the text that is read: t, of sz bytes -/
def RB (σ : zSg) (t sz : Nat) : Prop := σ 50 18 = nI (160 * t) ∧ σ 50 19 = nI sz ∧ sz ≤ 160 ∧ t < 6 ∧ ∀ i, i < sz → ∃ k, k < 256 ∧ σ 51 (160 * t + i) = nI k
def tB (σ : zSg) (t : Nat) : Nat → Int32 := fun i => σ 51 (160 * t + i)
def bA (f : Nat → Int32) (sz i : Nat) : Int32 := if i < sz then f i else -1
theorem t_byteAt {X : zXs} {d t sz i : Nat} {σ : zSg} {τ : Nat → Nat → Int64} {r : Option Nat} {x : Int32} (hB : RB σ t sz) (hx : x = nI i) (hi : i < 100000) : zF X d m_X7_byteAt [.ref 50, .int x] L0 (mm σ τ r) (some (.int (bA (tB σ t) sz i))) (mm σ τ r) := by
  obtain ⟨h18, h19, h160, h6, hb⟩ := hB
  subst hx
  unfold bA
  refine zF.of mk_X7_byteAt rfl ?_
  repeat first | refine zT.step ct_X7_byteAt_ok ?_ | refine And.intro ⟨by decide, _, rfl⟩ ?_ | refine And.intro ⟨by decide, rfl⟩ ?_
  refine And.intro (fun h => ?_) (fun h => ?_)
  · have h : σ 50 19 ≤ nI i := h
    rw [h19] at h
    have h := (nI_leI (by omega) (by omega)).mp h
    rw [if_neg (by omega)]
    repeat first | refine zT.step ct_X7_byteAt_ok ?_ | refine And.intro ⟨by decide, _, rfl⟩ ?_ | refine And.intro ⟨by decide, rfl⟩ ?_
    exact And.intro rfl (And.intro rfl rfl)
  · have h : ¬ σ 50 19 ≤ nI i := h
    rw [h19] at h
    have h : i < sz := i_ge rfl rfl (by omega) (by omega) h
    rw [if_pos h]
    repeat first | refine zT.step ct_X7_byteAt_ok ?_ | refine And.intro ⟨by decide, _, rfl⟩ ?_ | refine And.intro ⟨by decide, rfl⟩ ?_
    refine Exists.intro (160 * t + i) (And.intro ⟨?_, by decide, 960, rfl, by omega, by decide⟩ ?_)
    · show σ 50 18 + nI i = _
      rw [h18, nI_add]
    repeat first | refine zT.step ct_X7_byteAt_ok ?_ | refine And.intro ⟨by decide, _, rfl⟩ ?_ | refine And.intro ⟨by decide, rfl⟩ ?_
    exact And.intro rfl (And.intro rfl rfl)
