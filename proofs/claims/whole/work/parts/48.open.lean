/-! opens, name; what a run of steps makes of a stack -/
theorem RP.op {σ : zSg} {τ : Nat → Nat → Int64} {t sz o o' : Nat} {s : PS} {v : Int32} (h : RP σ τ t sz s o) (hv : v = nI o') : RP (z_up σ 50 24 v) τ t sz s o' := by
  obtain ⟨hB, hs, h24, h25, hF, h26⟩ := h
  have sp : SP σ (z_up σ 50 24 v) := SP.up rfl
  refine ⟨sp.rb hB, hs, by rw [z_up_s]; exact hv, by rw [zu_k _ _ _ _ _ (by decide)]; exact h25, fun h => ?_, fun h => ?_⟩
  · have hF := hF h
    rw [sp.bytes]
    unfold TF at hF ⊢
    rw [zu_k _ _ _ _ _ (by decide), zu_k _ _ _ _ _ (by decide), zu_k _ _ _ _ _ (by decide)]
    exact hF
  · rw [sp.bytes, zu_k _ _ _ _ _ (by decide)]
    exact h26 h
theorem t_opens5 {X : zXs} {d t sz : Nat} {σ : zSg} {τ : Nat → Nat → Int64} {r : Option Nat} {s : PS} (hd : 1 ≤ d) (hR : RP σ τ t sz s 5) : zC X d 0 0 m_X7_opens [.ref 50] L0 (mm σ τ r) (fun w L2 μ2 => w = some (.int 0) ∧ L2 = L0 ∧ ∃ σ', μ2 = mm σ' τ r ∧ SP σ σ' ∧ RP σ' τ t sz (ps_f s) 5) := by
  refine zC.of mk_X7_opens rfl ?_
  refine zT.step ct_X7_opens_ok ?_
  refine zT.step ct_X7_opens_ok ?_
  refine And.intro ⟨by decide, _, rfl⟩ ?_
  refine zT.step ct_X7_opens_ok ?_
  refine zT.step ct_X7_opens_ok ?_
  refine And.intro (fun _ => ?_) (fun h => absurd hR.2.2.1 h)
  refine zT.step ct_X7_opens_ok ?_
  refine zT.step ct_X7_opens_ok ?_
  refine And.intro ⟨hd, by decide, _, rfl⟩ (zC.use (t_fail hR) (fun w L2 μ2 hw => ?_))
  obtain ⟨rfl, rfl, σ', rfl, h1, h2⟩ := hw
  refine zT.step ct_X7_opens_ok ?_
  refine zT.step ct_X7_opens_ok ?_
  exact And.intro rfl (And.intro rfl (And.intro rfl ⟨σ', rfl, h1, h2⟩))
theorem t_opens {X : zXs} {d t sz o : Nat} {σ : zSg} {τ : Nat → Nat → Int64} {r : Option Nat} {s : PS} (hd : 3 ≤ d) (ho : o < 5) (hR : RP σ τ t sz s o) (hs2 : s.2 = false) (hk : k_tok (tB σ t) sz s.1 = 1 ∨ k_tok (tB σ t) sz s.1 = 2 ∨ k_tok (tB σ t) sz s.1 = 3) : zC X d 0 0 m_X7_opens [.ref 50] L0 (mm σ τ r) (fun w L2 μ2 => w = some (.int 1) ∧ L2 = L0 ∧ ∃ σ' τ', μ2 = mm σ' τ' r ∧ SP σ σ' ∧ RP σ' τ' t sz (ps_a (tB σ t) sz s) (o + 1)) := by
  have e24 : σ 50 24 + 1 = nI (o + 1) := by rw [hR.2.2.1, nI_1]
  have R2 := hR.op e24
  have sp : SP σ (z_up σ 50 24 (σ 50 24 + 1)) := SP.up rfl
  have nx := t_nextP (X := X) (d := d - 1) (r := r) (by omega) R2 hs2 (by rw [sp.bytes]; exact hk)
  rw [sp.bytes] at nx
  refine zC.of mk_X7_opens rfl ?_
  refine zT.step ct_X7_opens_ok ?_
  refine zT.step ct_X7_opens_ok ?_
  refine And.intro ⟨by decide, _, rfl⟩ ?_
  refine zT.step ct_X7_opens_ok ?_
  refine zT.step ct_X7_opens_ok ?_
  refine And.intro (fun h => ?_) (fun _ => ?_)
  · have h : σ 50 24 = nI 5 := h
    rw [hR.2.2.1] at h
    have := (nI_eq (by omega) (by omega)).mp h
    omega
  refine zT.step ct_X7_opens_ok ?_
  refine zT.step ct_X7_opens_ok ?_
  refine zT.step ct_X7_opens_ok ?_
  refine And.intro ⟨by decide, _, rfl⟩ ?_
  refine zT.step ct_X7_opens_ok ?_
  refine zT.step ct_X7_opens_ok ?_
  refine zT.step ct_X7_opens_ok ?_
  refine And.intro ⟨by decide, _, rfl⟩ ?_
  refine zT.step ct_X7_opens_ok ?_
  refine zT.step ct_X7_opens_ok ?_
  refine And.intro ⟨by omega, by decide, _, rfl⟩ (zC.use nx (fun w L2 μ2 hw => ?_))
  obtain ⟨rfl, rfl, σ', τ', rfl, h1, h2⟩ := hw
  refine zT.step ct_X7_opens_ok ?_
  refine zT.step ct_X7_opens_ok ?_
  exact And.intro rfl (And.intro rfl (And.intro rfl ⟨σ', τ', rfl, sp.trans h1, h2⟩))
def ev (σ : zSg) : Nat → Int32 := fun j => σ 50 (12 + j)
theorem SP.ev {σ σ' : zSg} (h : SP σ σ') : ∀ j, j < 6 → σ' 50 (12 + j) = σ 50 (12 + j) := fun j hj => h.2 _ (by
  match j, hj with
  | 0, _ => rfl
  | 1, _ => rfl
  | 2, _ => rfl
  | 3, _ => rfl
  | 4, _ => rfl
  | 5, _ => rfl)
theorem t_name {X : zXs} {d t sz o : Nat} {σ : zSg} {τ : Nat → Nat → Int64} {r : Option Nat} {s : PS} (hd : 3 ≤ d) (hR : RP σ τ t sz s o) : zC X d 0 0 m_X7_name [.ref 50] L0 (mm σ τ r) (fun w L2 μ2 => L2 = L0 ∧ ((∃ j, j < 6 ∧ ps_t (tB σ t) sz s = -1 - nI j ∧ w = some (.int (σ 50 (12 + j))) ∧ μ2 = mm σ τ r) ∨ ((∀ j, j < 6 → ps_t (tB σ t) sz s ≠ -1 - nI j) ∧ w = some (.int 0) ∧ ∃ σ', μ2 = mm σ' τ r ∧ SP σ σ' ∧ RP σ' τ t sz (ps_f s) o))) := by
  have iw : ∀ i, i < 12 → zF X (d - 1) m_X7_isWord [.ref 50, .int ((z_sb.getD i []).getD 0 0), .int ((z_sb.getD i []).getD 1 0), .int ((z_sb.getD i []).getD 2 0), .int ((z_sb.getD i []).getD 3 0), .int ((z_sb.getD i []).getD 4 0), .int ((z_sb.getD i []).getD 5 0), .int ((z_sb.getD i []).getD 6 0), .int ((z_sb.getD i []).getD 7 0)] L0 (mm σ τ r) (some (.int (f_b (decide (ps_t (tB σ t) sz s = z_wcd.getD i 0))))) (mm σ τ r) := fun i hi => t_isWord hi (by omega) hR
  have ff := t_fail (X := X) (d := d - 1) (r := r) hR
  generalize ps_t (tB σ t) sz s = T at iw ⊢
  refine zC.of mk_X7_name rfl ?_
  refine zT.step ct_X7_name_ok ?_
  refine zT.step ct_X7_name_ok ?_
  refine zT.step ct_X7_name_ok ?_
  refine zT.step ct_X7_name_ok ?_
  refine zT.step ct_X7_name_ok ?_
  refine zT.step ct_X7_name_ok ?_
  refine zT.step ct_X7_name_ok ?_
  refine zT.step ct_X7_name_ok ?_
  refine zT.step ct_X7_name_ok ?_
  refine zT.step ct_X7_name_ok ?_
  refine And.intro ⟨by omega, by decide, _, rfl⟩ (zF.use (iw 0 (by decide)) ?_)
  refine zT.step ct_X7_name_ok ?_
  refine And.intro (fun h => ?_) (fun h => ?_)
  case refine_2 =>
    have h := of_decide_eq_true (fb1 h)
    refine zT.step ct_X7_name_ok ?_
    refine zT.step ct_X7_name_ok ?_
    refine And.intro ⟨by decide, _, rfl⟩ ?_
    refine zT.step ct_X7_name_ok ?_
    exact And.intro rfl (Or.inl ⟨0, by decide, h, rfl, rfl⟩)
  have n0 := of_decide_eq_false (fb0 h)
  refine zT.step ct_X7_name_ok ?_
  refine zT.step ct_X7_name_ok ?_
  refine zT.step ct_X7_name_ok ?_
  refine zT.step ct_X7_name_ok ?_
  refine zT.step ct_X7_name_ok ?_
  refine zT.step ct_X7_name_ok ?_
  refine zT.step ct_X7_name_ok ?_
  refine zT.step ct_X7_name_ok ?_
  refine zT.step ct_X7_name_ok ?_
  refine zT.step ct_X7_name_ok ?_
  refine And.intro ⟨by omega, by decide, _, rfl⟩ (zF.use (iw 1 (by decide)) ?_)
  refine zT.step ct_X7_name_ok ?_
  refine And.intro (fun h => ?_) (fun h => ?_)
  case refine_2 =>
    have h := of_decide_eq_true (fb1 h)
    refine zT.step ct_X7_name_ok ?_
    refine zT.step ct_X7_name_ok ?_
    refine And.intro ⟨by decide, _, rfl⟩ ?_
    refine zT.step ct_X7_name_ok ?_
    exact And.intro rfl (Or.inl ⟨1, by decide, h, rfl, rfl⟩)
  have n1 := of_decide_eq_false (fb0 h)
  refine zT.step ct_X7_name_ok ?_
  refine zT.step ct_X7_name_ok ?_
  refine zT.step ct_X7_name_ok ?_
  refine zT.step ct_X7_name_ok ?_
  refine zT.step ct_X7_name_ok ?_
  refine zT.step ct_X7_name_ok ?_
  refine zT.step ct_X7_name_ok ?_
  refine zT.step ct_X7_name_ok ?_
  refine zT.step ct_X7_name_ok ?_
  refine zT.step ct_X7_name_ok ?_
  refine And.intro ⟨by omega, by decide, _, rfl⟩ (zF.use (iw 2 (by decide)) ?_)
  refine zT.step ct_X7_name_ok ?_
  refine And.intro (fun h => ?_) (fun h => ?_)
  case refine_2 =>
    have h := of_decide_eq_true (fb1 h)
    refine zT.step ct_X7_name_ok ?_
    refine zT.step ct_X7_name_ok ?_
    refine And.intro ⟨by decide, _, rfl⟩ ?_
    refine zT.step ct_X7_name_ok ?_
    exact And.intro rfl (Or.inl ⟨2, by decide, h, rfl, rfl⟩)
  have n2 := of_decide_eq_false (fb0 h)
  refine zT.step ct_X7_name_ok ?_
  refine zT.step ct_X7_name_ok ?_
  refine zT.step ct_X7_name_ok ?_
  refine zT.step ct_X7_name_ok ?_
  refine zT.step ct_X7_name_ok ?_
  refine zT.step ct_X7_name_ok ?_
  refine zT.step ct_X7_name_ok ?_
  refine zT.step ct_X7_name_ok ?_
  refine zT.step ct_X7_name_ok ?_
  refine zT.step ct_X7_name_ok ?_
  refine And.intro ⟨by omega, by decide, _, rfl⟩ (zF.use (iw 3 (by decide)) ?_)
  refine zT.step ct_X7_name_ok ?_
  refine And.intro (fun h => ?_) (fun h => ?_)
  case refine_2 =>
    have h := of_decide_eq_true (fb1 h)
    refine zT.step ct_X7_name_ok ?_
    refine zT.step ct_X7_name_ok ?_
    refine And.intro ⟨by decide, _, rfl⟩ ?_
    refine zT.step ct_X7_name_ok ?_
    exact And.intro rfl (Or.inl ⟨3, by decide, h, rfl, rfl⟩)
  have n3 := of_decide_eq_false (fb0 h)
  refine zT.step ct_X7_name_ok ?_
  refine zT.step ct_X7_name_ok ?_
  refine zT.step ct_X7_name_ok ?_
  refine zT.step ct_X7_name_ok ?_
  refine zT.step ct_X7_name_ok ?_
  refine zT.step ct_X7_name_ok ?_
  refine zT.step ct_X7_name_ok ?_
  refine zT.step ct_X7_name_ok ?_
  refine zT.step ct_X7_name_ok ?_
  refine zT.step ct_X7_name_ok ?_
  refine And.intro ⟨by omega, by decide, _, rfl⟩ (zF.use (iw 4 (by decide)) ?_)
  refine zT.step ct_X7_name_ok ?_
  refine And.intro (fun h => ?_) (fun h => ?_)
  case refine_2 =>
    have h := of_decide_eq_true (fb1 h)
    refine zT.step ct_X7_name_ok ?_
    refine zT.step ct_X7_name_ok ?_
    refine And.intro ⟨by decide, _, rfl⟩ ?_
    refine zT.step ct_X7_name_ok ?_
    exact And.intro rfl (Or.inl ⟨4, by decide, h, rfl, rfl⟩)
  have n4 := of_decide_eq_false (fb0 h)
  refine zT.step ct_X7_name_ok ?_
  refine zT.step ct_X7_name_ok ?_
  refine zT.step ct_X7_name_ok ?_
  refine zT.step ct_X7_name_ok ?_
  refine zT.step ct_X7_name_ok ?_
  refine zT.step ct_X7_name_ok ?_
  refine zT.step ct_X7_name_ok ?_
  refine zT.step ct_X7_name_ok ?_
  refine zT.step ct_X7_name_ok ?_
  refine zT.step ct_X7_name_ok ?_
  refine And.intro ⟨by omega, by decide, _, rfl⟩ (zF.use (iw 5 (by decide)) ?_)
  refine zT.step ct_X7_name_ok ?_
  refine And.intro (fun h => ?_) (fun h => ?_)
  case refine_2 =>
    have h := of_decide_eq_true (fb1 h)
    refine zT.step ct_X7_name_ok ?_
    refine zT.step ct_X7_name_ok ?_
    refine And.intro ⟨by decide, _, rfl⟩ ?_
    refine zT.step ct_X7_name_ok ?_
    exact And.intro rfl (Or.inl ⟨5, by decide, h, rfl, rfl⟩)
  have n5 := of_decide_eq_false (fb0 h)
  refine zT.step ct_X7_name_ok ?_
  refine zT.step ct_X7_name_ok ?_
  refine And.intro ⟨by omega, by decide, _, rfl⟩ (zC.use ff (fun w L2 μ2 hw => ?_))
  obtain ⟨rfl, rfl, σ', rfl, h1, h2⟩ := hw
  refine zT.step ct_X7_name_ok ?_
  refine zT.step ct_X7_name_ok ?_
  refine And.intro rfl (Or.inr ⟨fun j hj => ?_, rfl, σ', rfl, h1, h2⟩)
  match j, hj with
  | 0, _ => exact n0
  | 1, _ => exact n1
  | 2, _ => exact n2
  | 3, _ => exact n3
  | 4, _ => exact n4
  | 5, _ => exact n5
/-- a step, a run of steps on a stack -/
def ex1 (env : Nat → Int32) (s : Int32) (st : List Int32) : List Int32 :=
  if s < -6 then (if s = -18 ∨ s = -19 then (match st with
    | a :: l => f_al s a :: l
    | [] => []) else (match st with
    | b :: a :: l => f_jo s a b :: l
    | l => l))
  else (if s < 0 then env (-1 - s).toNatClampNeg else s) :: st
def exL (env : Nat → Int32) : List Int32 → List Int32 → List Int32
  | [], st => st
  | s :: c, st => exL env c (ex1 env s st)
theorem exL_app (env : Nat → Int32) : ∀ (c c' st : List Int32), exL env (c ++ c') st = exL env c' (exL env c st) := by
  intro c
  induction c with
  | nil => intro c' st; rfl
  | cons s c ih => intro c' st; exact ih c' (ex1 env s st)
theorem ex1_congr {e e' : Nat → Int32} (h : ∀ j, j < 6 → e j = e' j) (s : Int32) (st : List Int32) : ex1 e s st = ex1 e' s st := by
  unfold ex1
  by_cases h1 : s < -6
  · rw [if_pos h1, if_pos h1]
  · rw [if_neg h1, if_neg h1]
    by_cases h2 : s < 0
    · rw [if_pos h2, if_pos h2]
      obtain ⟨j, hj, e0⟩ := z_vix h1 h2
      rw [e0, nI_clamp (by omega), h j hj]
    · rw [if_neg h2, if_neg h2]
theorem exL_congr {e e' : Nat → Int32} (h : ∀ j, j < 6 → e j = e' j) : ∀ (c st : List Int32), exL e c st = exL e' c st := by
  intro c
  induction c with
  | nil => intro st; rfl
  | cons s c ih =>
    intro st
    show exL e c (ex1 e s st) = exL e' c (ex1 e' s st)
    rw [ex1_congr h, ih]
/-- what a reading method leaves: p the state behind it and its steps -/
def zV (σ : zSg) (r : Option Nat) (t sz o : Nat) (p : PS × List Int32) : zRQ := fun w L2 μ2 => L2 = L0 ∧ ∃ σ' τ' v, w = some (.int v) ∧ μ2 = mm σ' τ' r ∧ SP σ σ' ∧ RP σ' τ' t sz p.1 o ∧ (p.1.2 = false → ∀ st, exL (ev σ) p.2 st = v :: st)
def PFn (X : zXs) (M : zMD) (o dn : Nat) (G : (Nat → Int32) → Nat → PT) : Prop := ∀ (d : Nat) (σ : zSg) (τ : Nat → Nat → Int64) (r : Option Nat) (t sz : Nat) (s : PS), dn ≤ d → s.2 = false → RP σ τ t sz s o → zC X d 0 0 M [.ref 50] L0 (mm σ τ r) (zV σ r t sz o (G (tB σ t) sz s))
theorem ev_sp {σ σ' : zSg} (h : SP σ σ') (c st : List Int32) : exL (ev σ') c st = exL (ev σ) c st := exL_congr (fun j hj => h.ev j hj) c st
/-! atom at the fifth opening -/
theorem tok_lt {f : Nat → Int32} {sz p : Nat} : lx_t f sz p < -6 ∨ k_tok f sz p = 2 ∨ ∃ j, j < 6 ∧ lx_t f sz p = -1 - nI j := by
  by_cases h : lx_t f sz p < -6
  · exact Or.inl h
  · refine Or.inr ?_
    by_cases h2 : lx_t f sz p < 0
    · obtain ⟨j, hj, e⟩ := z_vix h h2
      refine Or.inr ⟨j, hj, ?_⟩
      rw [← e]
      refine Int32.toInt_inj.mp ?_
      have h3 : lx_t f sz p = -1 - (-1 - lx_t f sz p) := by
        rw [Int32.eq_sub_iff_add_eq, Int32.add_comm, Int32.sub_add_cancel]
      rw [← h3]
    · exact Or.inl (tok_nm.mp (Int32.not_lt.mp h2))
theorem z_wcd_j : ∀ j, j < 6 → z_wcd.getD j 0 = -1 - nI j ∧ ¬ (-1 - nI j) < (-6 : Int32) ∧ -1 - nI j < (0 : Int32) ∧ -1 - (-1 - nI j) = nI j := by decide
theorem ex_name {env : Nat → Int32} {j : Nat} (hj : j < 6) (st : List Int32) : exL env [-1 - nI j] st = env j :: st := by
  obtain ⟨-, h1, h2, h3⟩ := z_wcd_j j hj
  show ex1 env (-1 - nI j) st = _
  unfold ex1
  rw [if_neg h1, if_pos h2, h3, nI_clamp (by omega)]
theorem ex_num {env : Nat → Int32} {x : Int32} (h : 0 ≤ x) (st : List Int32) : exL env [x] st = x :: st := by
  show ex1 env x st = _
  unfold ex1
  have h2 : ¬ x < 0 := Int32.not_lt.mpr h
  have h1 : ¬ x < -6 := fun q => h2 (by
    have := Int32.lt_iff_toInt_lt.mp q
    refine Int32.lt_iff_toInt_lt.mpr ?_
    have e1 : (-6 : Int32).toInt = -6 := by decide
    have e2 : (0 : Int32).toInt = 0 := by decide
    omega)
  rw [if_neg h1, if_neg h2]
theorem t_atom5 {X : zXs} : PFn X m_X7_atom5 5 8 (fun f sz => pr_one f sz none) := by
  intro d σ τ r t sz s hd hs2 hR
  have sg1 : zF X (d - 1) m_X7_isSign [.ref 50, .int 45] L0 (mm σ τ r) (some (.int (f_b (decide (ps_t (tB σ t) sz s = -16))))) (mm σ τ r) := t_isSign (q := (45, -16)) (by decide) hR
  have sg2 : zF X (d - 1) m_X7_isSign [.ref 50, .int 40] L0 (mm σ τ r) (some (.int (f_b (decide (ps_t (tB σ t) sz s = -20))))) (mm σ τ r) := t_isSign (q := (40, -20)) (by decide) hR
  have op := t_opens5 (X := X) (d := d - 1) (r := r) (by omega) hR
  have ff := t_fail (X := X) (d := d - 1) (r := r) hR
  have nm := t_name (X := X) (d := d - 1) (r := r) (by omega) hR
  have nx := t_nextP (X := X) (d := d - 1) (r := r) (by omega) hR hs2
  have hF := hR.2.2.2.2.1 hs2
  have h25 : σ 50 25 = 0 := by rw [hR.2.2.2.1, hs2]; rfl
  have e : (fun f sz => pr_one f sz none) (tB σ t) sz s = pr_one (tB σ t) sz none s := rfl
  rw [e]
  have hT : ps_t (tB σ t) sz s = lx_t (tB σ t) sz s.1 := ps_tf hs2
  have dead : pr_one (tB σ t) sz none s = (ps_f s, []) → ∀ σ' : zSg, ∀ v : Int32, SP σ σ' → RP σ' τ t sz (ps_f s) 5 → zT X d m_X7_atom5 (zV σ r t sz 5 (pr_one (tB σ t) sz none s)) 0 0 102 [some (.ref 50), some (.int v)] [] L0 (mm σ' τ r) := by
    intro e2 σ' v h1 h2
    refine zT.step ct_X7_atom5_ok ?_
    refine zT.step ct_X7_atom5_ok ?_
    rw [e2]
    exact And.intro rfl ⟨σ', τ, v, rfl, rfl, h1, h2, fun h => by cases h⟩
  refine zC.of mk_X7_atom5 rfl ?_
  refine zT.step ct_X7_atom5_ok ?_
  refine zT.step ct_X7_atom5_ok ?_
  refine zT.step ct_X7_atom5_ok ?_
  refine zT.step ct_X7_atom5_ok ?_
  refine zT.step ct_X7_atom5_ok ?_
  refine And.intro ⟨by omega, by decide, _, rfl⟩ (zF.use sg1 ?_)
  refine zT.step ct_X7_atom5_ok ?_
  refine And.intro (fun h1 => ?_) (fun h1 => ?_)
  case refine_2 =>
    have h1 := of_decide_eq_true (fb1 h1)
    refine zT.step ct_X7_atom5_ok ?_
    refine zT.step ct_X7_atom5_ok ?_
    refine And.intro ⟨by omega, by decide, _, rfl⟩ (zC.use op (fun w L2 μ2 hw => ?_))
    obtain ⟨rfl, rfl, σ', rfl, h2, h3⟩ := hw
    refine zT.step ct_X7_atom5_ok ?_
    refine zT.step ct_X7_atom5_ok ?_
    exact dead (by unfold pr_one; rw [h1, if_pos (by decide), if_pos rfl]; rfl) σ' 0 h2 h3
  have h1 := of_decide_eq_false (fb0 h1)
  refine zT.step ct_X7_atom5_ok ?_
  refine zT.step ct_X7_atom5_ok ?_
  refine zT.step ct_X7_atom5_ok ?_
  refine And.intro ⟨by omega, by decide, _, rfl⟩ (zF.use sg2 ?_)
  refine zT.step ct_X7_atom5_ok ?_
  refine And.intro (fun h2 => ?_) (fun h2 => ?_)
  case refine_2 =>
    have h2 := of_decide_eq_true (fb1 h2)
    refine zT.step ct_X7_atom5_ok ?_
    refine zT.step ct_X7_atom5_ok ?_
    refine And.intro ⟨by omega, by decide, _, rfl⟩ (zC.use op (fun w L2 μ2 hw => ?_))
    obtain ⟨rfl, rfl, σ', rfl, h3, h4⟩ := hw
    refine zT.step ct_X7_atom5_ok ?_
    refine zT.step ct_X7_atom5_ok ?_
    exact dead (by unfold pr_one; rw [h2, if_pos (by decide), if_neg (by decide)]) σ' 0 h3 h4
  have h2 := of_decide_eq_false (fb0 h2)
  have other : (k_tok (tB σ t) sz s.1 ≠ 2) → (k_tok (tB σ t) sz s.1 ≠ 1 ∨ ∀ j, j < 6 → ps_t (tB σ t) sz s ≠ -1 - nI j) → pr_one (tB σ t) sz none s = (ps_f s, []) := by
    intro n2 n1
    unfold pr_one
    rw [if_pos, if_neg h1]
    rw [hT]
    rcases tok_lt (f := tB σ t) (sz := sz) (p := s.1) with z | z | ⟨j, hj, z⟩
    · exact z
    · exact absurd z n2
    · refine absurd z ?_
      rcases n1 with n1 | n1
      · intro z
        rw [← (z_wcd_j j hj).1] at z
        exact n1 ((tok_wd (by omega)).mp z).1
      · rw [← hT]; exact n1 j hj
  refine zT.step ct_X7_atom5_ok ?_
  refine zT.step ct_X7_atom5_ok ?_
  refine And.intro ⟨by decide, _, rfl⟩ ?_
  refine zT.step ct_X7_atom5_ok ?_
  refine And.intro (fun _ => ?_) (fun h => absurd h25 h)
  have kk : k_tok (tB σ t) sz s.1 < 2 ^ 31 := by rcases k_tok_v (tB σ t) sz s.1 with z | z | z | z | z <;> (rw [z.1]; decide)
  have word : k_tok (tB σ t) sz s.1 ≠ 2 → zT X d m_X7_atom5 (zV σ r t sz 5 (pr_one (tB σ t) sz none s)) 0 0 64 [some (.ref 50), some (.int 0)] [] L0 (mm σ τ r) := by
    intro n2
    refine zT.step ct_X7_atom5_ok ?_
    refine zT.step ct_X7_atom5_ok ?_
    refine And.intro ⟨by decide, _, rfl⟩ ?_
    refine zT.step ct_X7_atom5_ok ?_
    refine And.intro (fun _ => ?_) (fun h => absurd h25 h)
    refine zT.step ct_X7_atom5_ok ?_
    refine zT.step ct_X7_atom5_ok ?_
    refine And.intro ⟨by decide, _, rfl⟩ ?_
    refine zT.step ct_X7_atom5_ok ?_
    refine zT.step ct_X7_atom5_ok ?_
    refine And.intro (fun h3 => ?_) (fun h3 => ?_)
    · have h3 : σ 50 21 = nI 1 := h3
      rw [hF.2.1] at h3
      have h3 := (nI_eq kk (by decide)).mp h3
      refine zT.step ct_X7_atom5_ok ?_
      refine zT.step ct_X7_atom5_ok ?_
      refine And.intro ⟨by omega, by decide, _, rfl⟩ (zC.use nm (fun w L2 μ2 hw => ?_))
      obtain ⟨rfl, ⟨j, hj, hj2, rfl, rfl⟩ | ⟨hj, rfl, σ', rfl, h4, h5⟩⟩ := hw
      · refine zT.step ct_X7_atom5_ok ?_
        refine zT.step ct_X7_atom5_ok ?_
        refine zT.step ct_X7_atom5_ok ?_
        refine And.intro ⟨by decide, _, rfl⟩ ?_
        refine zT.step ct_X7_atom5_ok ?_
        refine And.intro (fun _ => ?_) (fun h => absurd h25 h)
        refine zT.step ct_X7_atom5_ok ?_
        refine zT.step ct_X7_atom5_ok ?_
        refine And.intro ⟨by omega, by decide, _, rfl⟩ (zC.use (nx (Or.inl h3)) (fun w L2 μ2 hw => ?_))
        obtain ⟨rfl, rfl, σ', τ', rfl, h4, h5⟩ := hw
        refine zT.step ct_X7_atom5_ok ?_
        refine zT.step ct_X7_atom5_ok ?_
        refine zT.step ct_X7_atom5_ok ?_
        have e2 : pr_one (tB σ t) sz none s = (ps_a (tB σ t) sz s, [-1 - nI j]) := by
          unfold pr_one
          rw [hj2, if_neg (z_wcd_j j hj).2.1]
        rw [e2]
        exact And.intro rfl ⟨σ', τ', _, rfl, rfl, h4, h5, fun _ st => ex_name hj st⟩
      · have h6 : σ' 50 25 = 1 := by rw [h5.2.2.2.1]; rfl
        refine zT.step ct_X7_atom5_ok ?_
        refine zT.step ct_X7_atom5_ok ?_
        refine zT.step ct_X7_atom5_ok ?_
        refine And.intro ⟨by decide, _, rfl⟩ ?_
        refine zT.step ct_X7_atom5_ok ?_
        refine And.intro (fun h => ?_) (fun _ => ?_)
        · have h : σ' 50 25 = 0 := h
          rw [h6] at h
          exact absurd h (by decide)
        exact dead (other n2 (Or.inr hj)) σ' 0 h4 h5
    · have h3 : ¬ σ 50 21 = nI 1 := h3
      rw [hF.2.1] at h3
      have h3 : k_tok (tB σ t) sz s.1 ≠ 1 := fun z => h3 (by rw [z])
      refine zT.step ct_X7_atom5_ok ?_
      refine zT.step ct_X7_atom5_ok ?_
      refine And.intro ⟨by omega, by decide, _, rfl⟩ (zC.use ff (fun w L2 μ2 hw => ?_))
      obtain ⟨rfl, rfl, σ', rfl, h4, h5⟩ := hw
      exact dead (other n2 (Or.inl h3)) σ' 0 h4 h5
  refine zT.step ct_X7_atom5_ok ?_
  refine zT.step ct_X7_atom5_ok ?_
  refine And.intro ⟨by decide, _, rfl⟩ ?_
  refine zT.step ct_X7_atom5_ok ?_
  refine zT.step ct_X7_atom5_ok ?_
  refine And.intro (fun h3 => ?_) (fun h3 => ?_)
  · have h3 : σ 50 21 = nI 2 := h3
    rw [hF.2.1] at h3
    have h3 := (nI_eq kk (by decide)).mp h3
    have hw := hF.2.2.2.1 h3
    have hpos := tok_nm.mpr h3
    refine zT.step ct_X7_atom5_ok ?_
    refine zT.step ct_X7_atom5_ok ?_
    refine And.intro ⟨by decide, _, rfl⟩ ?_
    refine zT.step ct_X7_atom5_ok ?_
    refine zT.step ct_X7_atom5_ok ?_
    refine zT.step ct_X7_atom5_ok ?_
    refine zT.step ct_X7_atom5_ok ?_
    refine And.intro ⟨by omega, by decide, _, rfl⟩ (zC.use (nx (Or.inr (Or.inl h3))) (fun w L2 μ2 hw => ?_))
    obtain ⟨rfl, rfl, σ', τ', rfl, h4, h5⟩ := hw
    refine zT.step ct_X7_atom5_ok ?_
    refine zT.step ct_X7_atom5_ok ?_
    refine zT.step ct_X7_atom5_ok ?_
    have e2 : pr_one (tB σ t) sz none s = (ps_a (tB σ t) sz s, [lx_t (tB σ t) sz s.1]) := by
      unfold pr_one
      rw [hT, if_neg (fun q => by
        have := Int32.lt_iff_toInt_lt.mp q
        have h0 := Int32.le_iff_toInt_le.mp hpos
        have e1 : (-6 : Int32).toInt = -6 := by decide
        have e2 : (0 : Int32).toInt = 0 := by decide
        omega)]
    rw [e2]
    refine And.intro rfl ⟨σ', τ', lx_t (tB σ t) sz s.1, ?_, rfl, h4, h5, fun _ st => ex_num hpos st⟩
    show some (Value.int (τ 50 23).toInt32) = _
    rw [hw]
  · have h3 : ¬ σ 50 21 = nI 2 := h3
    rw [hF.2.1] at h3
    exact word (fun z => h3 (by rw [z]))
