/-! the reference's leastOf, mostOf, lays, told, set, thing -/
def lwR (w : Nat) : Int32 := if w = 3 then 1 else 0
def hiR (w : Nat) : Int32 := if w = 0 then 364 else if w = 1 then 8191 else if w = 2 then 9 else if w = 3 then 20 else 29
theorem t_leastOf {X : zXs} {d w : Nat} {L : List zSh} {μ : zMem} (hw : w < 7) : zF X d m_X7_leastOf [.int (nI w)] L μ (some (.int (lwR w))) μ := by
  unfold lwR
  refine zF.of mk_X7_leastOf rfl ?_
  refine zT.step ct_X7_leastOf_ok ?_
  refine zT.step ct_X7_leastOf_ok ?_
  refine zT.step ct_X7_leastOf_ok ?_
  refine And.intro (fun q => ?_) (fun q => ?_)
  · have q : nI w = nI 3 := q
    have q := (nI_eq (by omega) (by decide)).mp q
    rw [if_pos q]
    refine zT.step ct_X7_leastOf_ok ?_
    refine zT.step ct_X7_leastOf_ok ?_
    refine zT.step ct_X7_leastOf_ok ?_
    exact And.intro rfl (And.intro rfl rfl)
  · have q : ¬ nI w = nI 3 := q
    have q : ¬ w = 3 := fun z => q (by rw [z])
    rw [if_neg q]
    refine zT.step ct_X7_leastOf_ok ?_
    refine zT.step ct_X7_leastOf_ok ?_
    exact And.intro rfl (And.intro rfl rfl)
theorem t_mostOf {X : zXs} {d w : Nat} {L : List zSh} {μ : zMem} (hw : w < 7) : zF X d m_X7_mostOf [.int (nI w)] L μ (some (.int (hiR w))) μ := by
  unfold hiR
  refine zF.of mk_X7_mostOf rfl ?_
  refine zT.step ct_X7_mostOf_ok ?_
  refine zT.step ct_X7_mostOf_ok ?_
  refine And.intro (fun q => ?_) (fun q => ?_)
  · have q : nI w = nI 0 := q
    have q := (nI_eq (by omega) (by decide)).mp q
    rw [if_pos q]
    refine zT.step ct_X7_mostOf_ok ?_
    refine zT.step ct_X7_mostOf_ok ?_
    refine zT.step ct_X7_mostOf_ok ?_
    exact And.intro rfl (And.intro rfl rfl)
  have q : ¬ nI w = nI 0 := q
  have q : ¬ w = 0 := fun z => q (by rw [z])
  rw [if_neg q]
  refine zT.step ct_X7_mostOf_ok ?_
  refine zT.step ct_X7_mostOf_ok ?_
  refine zT.step ct_X7_mostOf_ok ?_
  refine And.intro (fun q => ?_) (fun q => ?_)
  · have q : nI w = nI 1 := q
    have q := (nI_eq (by omega) (by decide)).mp q
    rw [if_pos q]
    refine zT.step ct_X7_mostOf_ok ?_
    refine zT.step ct_X7_mostOf_ok ?_
    refine zT.step ct_X7_mostOf_ok ?_
    exact And.intro rfl (And.intro rfl rfl)
  have q : ¬ nI w = nI 1 := q
  have q : ¬ w = 1 := fun z => q (by rw [z])
  rw [if_neg q]
  refine zT.step ct_X7_mostOf_ok ?_
  refine zT.step ct_X7_mostOf_ok ?_
  refine zT.step ct_X7_mostOf_ok ?_
  refine And.intro (fun q => ?_) (fun q => ?_)
  · have q : nI w = nI 2 := q
    have q := (nI_eq (by omega) (by decide)).mp q
    rw [if_pos q]
    refine zT.step ct_X7_mostOf_ok ?_
    refine zT.step ct_X7_mostOf_ok ?_
    refine zT.step ct_X7_mostOf_ok ?_
    exact And.intro rfl (And.intro rfl rfl)
  have q : ¬ nI w = nI 2 := q
  have q : ¬ w = 2 := fun z => q (by rw [z])
  rw [if_neg q]
  refine zT.step ct_X7_mostOf_ok ?_
  refine zT.step ct_X7_mostOf_ok ?_
  refine zT.step ct_X7_mostOf_ok ?_
  refine And.intro (fun q => ?_) (fun q => ?_)
  · have q : nI w = nI 3 := q
    have q := (nI_eq (by omega) (by decide)).mp q
    rw [if_pos q]
    refine zT.step ct_X7_mostOf_ok ?_
    refine zT.step ct_X7_mostOf_ok ?_
    refine zT.step ct_X7_mostOf_ok ?_
    exact And.intro rfl (And.intro rfl rfl)
  have q : ¬ nI w = nI 3 := q
  have q : ¬ w = 3 := fun z => q (by rw [z])
  rw [if_neg q]
  refine zT.step ct_X7_mostOf_ok ?_
  refine zT.step ct_X7_mostOf_ok ?_
  exact And.intro rfl (And.intro rfl rfl)
/-- what lays writes -/
def w_lay (σ : zSg) (w x : Nat) (v : Int32) : zSg := if w = 0 then z_up σ 50 7 v else if w = 1 then z_up σ 50 8 v else if w < 5 then z_up σ 55 (3 * x + (w - 2)) v else if w = 5 then z_up σ 54 x v else z_up σ 50 4 v
theorem t7_lays {X : zXs} {d w i : Nat} {σ : zSg} {τ : Nat → Nat → Int64} {r : Option Nat} {x v : Int32} (hw : w < 7) (hx : 2 ≤ w → w < 6 → x = nI i ∧ i < 8) : zF X d m_X7_lays [.ref 50, .int (nI w), .int x, .int v] L0 (mm σ τ r) none (mm (w_lay σ w i v) τ r) := by
  unfold w_lay
  refine zF.of mk_X7_lays rfl ?_
  refine zT.step ct_X7_lays_ok ?_
  refine zT.step ct_X7_lays_ok ?_
  refine And.intro (fun q => ?_) (fun q => ?_)
  · have q : nI w = nI 0 := q
    have q := (nI_eq (by omega) (by decide)).mp q
    rw [if_pos q]
    refine zT.step ct_X7_lays_ok ?_
    refine zT.step ct_X7_lays_ok ?_
    refine zT.step ct_X7_lays_ok ?_
    refine And.intro ⟨by decide, _, rfl⟩ ?_
    refine zT.step ct_X7_lays_ok ?_
    refine zT.step ct_X7_lays_ok ?_
    exact And.intro rfl (And.intro rfl rfl)
  have q : ¬ nI w = nI 0 := q
  have q0 : ¬ w = 0 := fun z => q (by rw [z])
  rw [if_neg q0]
  refine zT.step ct_X7_lays_ok ?_
  refine zT.step ct_X7_lays_ok ?_
  refine zT.step ct_X7_lays_ok ?_
  refine And.intro (fun q => ?_) (fun q => ?_)
  · have q : nI w = nI 1 := q
    have q := (nI_eq (by omega) (by decide)).mp q
    rw [if_pos q]
    refine zT.step ct_X7_lays_ok ?_
    refine zT.step ct_X7_lays_ok ?_
    refine zT.step ct_X7_lays_ok ?_
    refine And.intro ⟨by decide, _, rfl⟩ ?_
    refine zT.step ct_X7_lays_ok ?_
    refine zT.step ct_X7_lays_ok ?_
    exact And.intro rfl (And.intro rfl rfl)
  have q : ¬ nI w = nI 1 := q
  have q1 : ¬ w = 1 := fun z => q (by rw [z])
  rw [if_neg q1]
  refine zT.step ct_X7_lays_ok ?_
  refine zT.step ct_X7_lays_ok ?_
  refine zT.step ct_X7_lays_ok ?_
  refine And.intro (fun q => ?_) (fun q => ?_)
  · have q : nI 5 ≤ nI w := q
    have q := (nI_leI (by decide) (by omega)).mp q
    rw [if_neg (show ¬ w < 5 by omega)]
    refine zT.step ct_X7_lays_ok ?_
    refine zT.step ct_X7_lays_ok ?_
    refine zT.step ct_X7_lays_ok ?_
    refine And.intro (fun q => ?_) (fun q => ?_)
    · have q : nI w = nI 5 := q
      have q := (nI_eq (by omega) (by decide)).mp q
      obtain ⟨rfl, hi⟩ := hx (by omega) (by omega)
      rw [if_pos q]
      refine zT.step ct_X7_lays_ok ?_
      refine zT.step ct_X7_lays_ok ?_
      refine And.intro ⟨by decide, _, rfl⟩ ?_
      refine zT.step ct_X7_lays_ok ?_
      refine zT.step ct_X7_lays_ok ?_
      refine zT.step ct_X7_lays_ok ?_
      refine Exists.intro i (And.intro ⟨rfl, by decide, 8, rfl, by omega, by decide⟩ ?_)
      refine zT.step ct_X7_lays_ok ?_
      refine zT.step ct_X7_lays_ok ?_
      exact And.intro rfl (And.intro rfl rfl)
    · have q : ¬ nI w = nI 5 := q
      have q : ¬ w = 5 := fun z => q (by rw [z])
      rw [if_neg q]
      refine zT.step ct_X7_lays_ok ?_
      refine zT.step ct_X7_lays_ok ?_
      refine zT.step ct_X7_lays_ok ?_
      refine And.intro ⟨by decide, _, rfl⟩ ?_
      refine zT.step ct_X7_lays_ok ?_
      exact And.intro rfl (And.intro rfl rfl)
  · have q : ¬ nI 5 ≤ nI w := q
    have q : w < 5 := i_ge rfl rfl (by omega) (by decide) q
    obtain ⟨rfl, hi⟩ := hx (by omega) (by omega)
    rw [if_pos q]
    refine zT.step ct_X7_lays_ok ?_
    refine zT.step ct_X7_lays_ok ?_
    refine And.intro ⟨by decide, _, rfl⟩ ?_
    refine zT.step ct_X7_lays_ok ?_
    refine zT.step ct_X7_lays_ok ?_
    refine zT.step ct_X7_lays_ok ?_
    refine zT.step ct_X7_lays_ok ?_
    refine zT.step ct_X7_lays_ok ?_
    refine zT.step ct_X7_lays_ok ?_
    refine zT.step ct_X7_lays_ok ?_
    refine zT.step ct_X7_lays_ok ?_
    refine zT.step ct_X7_lays_ok ?_
    refine Exists.intro (3 * i + (w - 2)) (And.intro ⟨?_, by decide, 24, rfl, by omega, by decide⟩ ?_)
    · show nI 3 * nI i + nI w - nI 2 = _
      rw [nI_mulN, nI_add, nI_sub (by omega), show 3 * i + w - 2 = 3 * i + (w - 2) by omega]
    refine zT.step ct_X7_lays_ok ?_
    refine zT.step ct_X7_lays_ok ?_
    exact And.intro rfl (And.intro rfl rfl)
theorem t_told {X : zXs} {d n t m : Nat} {a σ : zSg} {τ : Nat → Nat → Int64} {r : Option Nat} {x w : Int32} (hd : 2 ≤ d) (hE : RE a σ n t m) : zF X d m_X7_told [.ref 50, .int x, .int w] L0 (mm σ τ r) (some (.int (v_told a n x w))) (mm σ τ r) := by
  have h8 := hE.1.1
  have bad : (rg w 7 && (decide (w < 2) || rg x n)) = false → zT X d m_X7_told (fun w2 L2 μ2 => w2 = some (.int (v_told a n x w)) ∧ L2 = L0 ∧ μ2 = mm σ τ r) 0 0 25 [some (.ref 50), some (.int x), some (.int w)] [] L0 (mm σ τ r) := by
    intro e
    unfold v_told
    rw [e]
    refine zT.step ct_X7_told_ok ?_
    refine zT.step ct_X7_told_ok ?_
    exact And.intro rfl (And.intro rfl rfl)
  have good : ∀ j, w = nI j → j < 7 → (2 ≤ j → rg x n = true) → zT X d m_X7_told (fun w2 L2 μ2 => w2 = some (.int (v_told a n x w)) ∧ L2 = L0 ∧ μ2 = mm σ τ r) 0 0 28 [some (.ref 50), some (.int x), some (.int w)] [] L0 (mm σ τ r) := by
    intro j hj hj7 hx
    subst hj
    have e : (rg (nI j) 7 && (decide (nI j < 2) || rg x n)) = true := by
      rw [rg_i (by decide) hj7, Bool.true_and]
      by_cases z : 2 ≤ j
      · rw [hx z, Bool.or_true]
      · rw [decide_eq_true (show nI j < 2 from nI_lt (b := 2) (by omega) (by decide)), Bool.true_or]
    have ev : v_told a n x (nI j) = v_tl a j x.toNatClampNeg := by
      unfold v_told
      rw [e, nI_clamp (by omega)]
      rfl
    rw [ev]
    unfold v_tl
    refine zT.step ct_X7_told_ok ?_
    refine zT.step ct_X7_told_ok ?_
    refine zT.step ct_X7_told_ok ?_
    refine And.intro (fun q => ?_) (fun q => ?_)
    · have q : nI 2 ≤ nI j := q
      have q := (nI_leI (by decide) (by omega)).mp q
      obtain ⟨ex, hxn⟩ := rg_f (by omega) (hx q)
      obtain ⟨k0, r0, r1, r2⟩ := hE.2.2.1 _ hxn
      rw [if_neg (show ¬ j = 0 by omega), if_neg (show ¬ j = 1 by omega)]
      generalize x.toNatClampNeg = i at ex hxn k0 r0 r1 r2 ⊢
      subst ex
      unfold v_read
      refine zT.step ct_X7_told_ok ?_
      refine zT.step ct_X7_told_ok ?_
      refine zT.step ct_X7_told_ok ?_
      refine And.intro (fun q5 => ?_) (fun q5 => ?_)
      · have q5 : nI 5 ≤ nI j := q5
        have q5 := (nI_leI (by decide) (by omega)).mp q5
        rw [if_neg (show ¬ j = 2 by omega), if_neg (show ¬ j = 3 by omega), if_neg (show ¬ j = 4 by omega)]
        refine zT.step ct_X7_told_ok ?_
        refine zT.step ct_X7_told_ok ?_
        refine zT.step ct_X7_told_ok ?_
        refine And.intro (fun q6 => ?_) (fun q6 => ?_)
        · have q6 : nI j = nI 5 := q6
          have q6 := (nI_eq (by omega) (by decide)).mp q6
          rw [if_pos q6]
          refine zT.step ct_X7_told_ok ?_
          refine zT.step ct_X7_told_ok ?_
          refine And.intro ⟨by decide, _, rfl⟩ ?_
          refine zT.step ct_X7_told_ok ?_
          refine zT.step ct_X7_told_ok ?_
          refine Exists.intro i (And.intro ⟨rfl, by decide, 8, rfl, by omega, by decide⟩ ?_)
          refine zT.step ct_X7_told_ok ?_
          refine zT.step ct_X7_told_ok ?_
          exact And.intro (congrArg (fun v => some (Value.int v)) k0) (And.intro rfl rfl)
        · have q6 : ¬ nI j = nI 5 := q6
          have q6 : ¬ j = 5 := fun z => q6 (by rw [z])
          rw [if_neg q6]
          refine zT.step ct_X7_told_ok ?_
          refine zT.step ct_X7_told_ok ?_
          refine And.intro ⟨by decide, _, rfl⟩ ?_
          refine zT.step ct_X7_told_ok ?_
          refine zT.step ct_X7_told_ok ?_
          refine Exists.intro i (And.intro ⟨rfl, by decide, 8, rfl, by omega, by decide⟩ ?_)
          refine zT.step ct_X7_told_ok ?_
          refine zT.step ct_X7_told_ok ?_
          refine And.intro (fun q7 => ?_) (fun q7 => ?_)
          · have q7 : σ 54 i = 3 := q7
            rw [k0] at q7
            rw [if_pos q7]
            refine zT.step ct_X7_told_ok ?_
            refine zT.step ct_X7_told_ok ?_
            refine zT.step ct_X7_told_ok ?_
            exact And.intro rfl (And.intro rfl rfl)
          · have q7 : ¬ σ 54 i = 3 := q7
            rw [k0] at q7
            rw [if_neg q7]
            refine zT.step ct_X7_told_ok ?_
            refine zT.step ct_X7_told_ok ?_
            exact And.intro rfl (And.intro rfl rfl)
      · have q5 : ¬ nI 5 ≤ nI j := q5
        have q5 : j < 5 := i_ge rfl rfl (by omega) (by decide) q5
        refine zT.step ct_X7_told_ok ?_
        refine zT.step ct_X7_told_ok ?_
        refine And.intro ⟨by decide, _, rfl⟩ ?_
        refine zT.step ct_X7_told_ok ?_
        refine zT.step ct_X7_told_ok ?_
        refine zT.step ct_X7_told_ok ?_
        refine zT.step ct_X7_told_ok ?_
        refine zT.step ct_X7_told_ok ?_
        refine zT.step ct_X7_told_ok ?_
        refine zT.step ct_X7_told_ok ?_
        refine zT.step ct_X7_told_ok ?_
        refine Exists.intro (3 * i + (j - 2)) (And.intro ⟨?_, by decide, 24, rfl, by omega, by decide⟩ ?_)
        · show nI 3 * nI i + nI j - nI 2 = _
          rw [nI_mulN, nI_add, nI_sub (by omega), show 3 * i + j - 2 = 3 * i + (j - 2) by omega]
        refine zT.step ct_X7_told_ok ?_
        refine zT.step ct_X7_told_ok ?_
        refine And.intro (congrArg (fun v => some (Value.int v)) ?_) (And.intro rfl rfl)
        have : j = 2 ∨ j = 3 ∨ j = 4 := by omega
        rcases this with rfl | rfl | rfl
        · exact r0
        · exact r1
        · exact r2
    · have q : ¬ nI 2 ≤ nI j := q
      have q : j < 2 := i_ge rfl rfl (by omega) (by decide) q
      refine zT.step ct_X7_told_ok ?_
      refine zT.step ct_X7_told_ok ?_
      refine And.intro (fun q0 => ?_) (fun q0 => ?_)
      · have q0 : nI j = nI 0 := q0
        have q0 := (nI_eq (by omega) (by decide)).mp q0
        rw [if_pos q0]
        refine zT.step ct_X7_told_ok ?_
        refine zT.step ct_X7_told_ok ?_
        refine And.intro ⟨by decide, _, rfl⟩ ?_
        refine zT.step ct_X7_told_ok ?_
        refine zT.step ct_X7_told_ok ?_
        exact And.intro (congrArg (fun v => some (Value.int v)) hE.2.1.1) (And.intro rfl rfl)
      · have q0 : ¬ nI j = nI 0 := q0
        have q0 : ¬ j = 0 := fun z => q0 (by rw [z])
        rw [if_neg q0, if_pos (show j = 1 by omega)]
        refine zT.step ct_X7_told_ok ?_
        refine zT.step ct_X7_told_ok ?_
        refine And.intro ⟨by decide, _, rfl⟩ ?_
        refine zT.step ct_X7_told_ok ?_
        exact And.intro (congrArg (fun v => some (Value.int v)) hE.2.1.2) (And.intro rfl rfl)
  refine zF.of mk_X7_told rfl ?_
  refine zT.step ct_X7_told_ok ?_
  refine zT.step ct_X7_told_ok ?_
  refine zT.step ct_X7_told_ok ?_
  refine zT.step ct_X7_told_ok ?_
  refine zT.step ct_X7_told_ok ?_
  refine And.intro (by omega) (zF.use (t_inR (m := 6) (by decide) rfl) ?_)
  refine zT.step ct_X7_told_ok ?_
  refine And.intro (fun q => bad (by rw [fb0 q]; rfl)) (fun q => ?_)
  have q := fb1 q
  obtain ⟨j, hj, ej⟩ := rg_t (by decide) q
  refine zT.step ct_X7_told_ok ?_
  refine zT.step ct_X7_told_ok ?_
  refine zT.step ct_X7_told_ok ?_
  refine And.intro (fun q2 => ?_) (fun q2 => ?_)
  · have q2 : w ≤ 1 := q2
    rw [ej] at q2
    have q2 : nI j ≤ nI 1 := q2
    have q2 := (nI_leI (by omega) (by decide)).mp q2
    exact good j ej hj (fun z => absurd z (by omega))
  · have q2 : ¬ w ≤ 1 := q2
    refine zT.step ct_X7_told_ok ?_
    refine zT.step ct_X7_told_ok ?_
    refine zT.step ct_X7_told_ok ?_
    refine And.intro ⟨by omega, by decide, _, rfl⟩ (zF.use (t_isThing (by omega) hE.1.2.1 h8) ?_)
    refine zT.step ct_X7_told_ok ?_
    refine And.intro (fun q3 => ?_) (fun q3 => good j ej hj (fun _ => fb1 q3))
    have q3 := fb0 q3
    refine bad ?_
    rw [q3, Bool.or_false]
    have : ¬ w < 2 := by
      rw [ej] at q2 ⊢
      intro z
      have z : nI j < nI 2 := z
      have z := (nI_ltI (by omega) (by decide)).mp z
      exact q2 (nI_le (a := j) (b := 1) (by omega) (by decide))
    rw [decide_eq_false this, Bool.and_false]
def w_set (σ : zSg) (n : Nat) (w x v : Int32) : zSg := bif k_set n w x v then w_lay σ w.toNatClampNeg x.toNatClampNeg v else σ
theorem lw_lw : ∀ w, w < 5 → lwR w = lwO w ∧ hiR w = hiO w := by decide
theorem t7_set {X : zXs} {d n t m : Nat} {a σ : zSg} {τ : Nat → Nat → Int64} {r : Option Nat} {x w v : Int32} (hd : 3 ≤ d) (hE : RE a σ n t m) : zF X d m_X7_set [.ref 50, .int w, .int x, .int v] L0 (mm σ τ r) (some (.int (v_set a n w x v))) (mm (w_set σ n w x v) τ r) := by
  have h8 := hE.1.1
  have bad : k_set n w x v = false → zT X d m_X7_set (fun w2 L2 μ2 => w2 = some (.int (v_set a n w x v)) ∧ L2 = L0 ∧ μ2 = mm (w_set σ n w x v) τ r) 0 0 43 [some (.ref 50), some (.int w), some (.int x), some (.int v), none] [] L0 (mm σ τ r) := by
    intro e
    unfold v_set w_set
    rw [e]
    refine zT.step ct_X7_set_ok ?_
    refine zT.step ct_X7_set_ok ?_
    exact And.intro rfl (And.intro rfl rfl)
  have good : ∀ j, w = nI j → j < 5 → (2 ≤ j → rg x n = true) → zT X d m_X7_set (fun w2 L2 μ2 => w2 = some (.int (v_set a n w x v)) ∧ L2 = L0 ∧ μ2 = mm (w_set σ n w x v) τ r) 0 0 25 [some (.ref 50), some (.int w), some (.int x), some (.int v), none] [] L0 (mm σ τ r) := by
    intro j hj hj5 hx
    subst hj
    obtain ⟨el, eh⟩ := lw_lw j hj5
    have ef : decide (lwR j ≤ v ∧ v ≤ hiR j) = f_fit (lwO j) (hiO j) v := by
      unfold f_fit
      rw [el, eh, decide_eq_decide, Int32.not_lt, Int32.not_lt]
    have eo : (decide (nI j < 2) || rg x n) = true := by
      by_cases z : 2 ≤ j
      · rw [hx z, Bool.or_true]
      · rw [decide_eq_true (show nI j < 2 from nI_lt (b := 2) (by omega) (by decide)), Bool.true_or]
    have ek : k_set n (nI j) x v = f_fit (lwO j) (hiO j) v := by
      unfold k_set
      rw [eo, rg_i (by decide) hj5, nI_clamp (by omega)]
      simp
    have i1 := t_inI (X := X) (d := d - 1) (L := L0) (μ := mm σ τ r) (x := v) (lo := (lwR j).toInt64) (hi := (hiR j).toInt64) (a := lwR j) (b := hiR j) (Int32.toInt_toInt64 _) (Int32.toInt_toInt64 _)
    rw [ef] at i1
    refine zT.step ct_X7_set_ok ?_
    refine zT.step ct_X7_set_ok ?_
    refine zT.step ct_X7_set_ok ?_
    refine zT.step ct_X7_set_ok ?_
    refine And.intro (by omega) (zF.use (t_leastOf (by omega)) ?_)
    refine zT.step ct_X7_set_ok ?_
    refine zT.step ct_X7_set_ok ?_
    refine zT.step ct_X7_set_ok ?_
    refine And.intro (by omega) (zF.use (t_mostOf (by omega)) ?_)
    refine zT.step ct_X7_set_ok ?_
    refine zT.step ct_X7_set_ok ?_
    refine And.intro (by omega) (zF.use i1 ?_)
    refine zT.step ct_X7_set_ok ?_
    refine And.intro (fun q => bad (by rw [ek]; exact fb0 q)) (fun q => ?_)
    have q := fb1 q
    have ek2 : k_set n (nI j) x v = true := by rw [ek]; exact q
    have et : v_told a n x (nI j) = v_tl a j x.toNatClampNeg := by
      unfold v_told
      rw [eo, rg_i (by decide) (by omega), nI_clamp (by omega)]
      rfl
    have td := t_told (X := X) (d := d - 1) (τ := τ) (r := r) (x := x) (w := nI j) (by omega) hE
    rw [et] at td
    have ly := t7_lays (X := X) (d := d - 1) (σ := σ) (τ := τ) (r := r) (w := j) (i := x.toNatClampNeg) (x := x) (v := v) (by omega) (fun z1 _ => by have := rg_f (by omega) (hx z1); exact ⟨this.1, by omega⟩)
    refine zT.step ct_X7_set_ok ?_
    refine zT.step ct_X7_set_ok ?_
    refine zT.step ct_X7_set_ok ?_
    refine zT.step ct_X7_set_ok ?_
    refine And.intro ⟨by omega, by decide, _, rfl⟩ (zF.use td ?_)
    refine zT.step ct_X7_set_ok ?_
    refine zT.step ct_X7_set_ok ?_
    refine zT.step ct_X7_set_ok ?_
    refine zT.step ct_X7_set_ok ?_
    refine zT.step ct_X7_set_ok ?_
    refine zT.step ct_X7_set_ok ?_
    refine And.intro ⟨by omega, by decide, _, rfl⟩ (zF.use ly ?_)
    refine zT.step ct_X7_set_ok ?_
    refine zT.step ct_X7_set_ok ?_
    refine And.intro ?_ (And.intro rfl ?_)
    · unfold v_set
      rw [ek2, nI_clamp (by omega)]
      rfl
    · unfold w_set
      rw [ek2, nI_clamp (by omega)]
      rfl
  refine zF.of mk_X7_set rfl ?_
  refine zT.step ct_X7_set_ok ?_
  refine zT.step ct_X7_set_ok ?_
  refine zT.step ct_X7_set_ok ?_
  refine zT.step ct_X7_set_ok ?_
  refine zT.step ct_X7_set_ok ?_
  refine And.intro (by omega) (zF.use (t_inR (m := 4) (by decide) rfl) ?_)
  refine zT.step ct_X7_set_ok ?_
  refine And.intro (fun q => bad (by unfold k_set; rw [fb0 q]; rfl)) (fun q => ?_)
  have q := fb1 q
  obtain ⟨j, hj, ej⟩ := rg_t (by decide) q
  refine zT.step ct_X7_set_ok ?_
  refine zT.step ct_X7_set_ok ?_
  refine zT.step ct_X7_set_ok ?_
  refine And.intro (fun q2 => ?_) (fun q2 => ?_)
  · have q2 : w ≤ 1 := q2
    rw [ej] at q2
    have q2 : nI j ≤ nI 1 := q2
    have q2 := (nI_leI (by omega) (by decide)).mp q2
    exact good j ej hj (fun z => absurd z (by omega))
  · have q2 : ¬ w ≤ 1 := q2
    refine zT.step ct_X7_set_ok ?_
    refine zT.step ct_X7_set_ok ?_
    refine zT.step ct_X7_set_ok ?_
    refine And.intro ⟨by omega, by decide, _, rfl⟩ (zF.use (t_isThing (by omega) hE.1.2.1 h8) ?_)
    refine zT.step ct_X7_set_ok ?_
    refine And.intro (fun q3 => ?_) (fun q3 => good j ej hj (fun _ => fb1 q3))
    have q3 := fb0 q3
    refine bad ?_
    have : ¬ w < 2 := by
      rw [ej] at q2 ⊢
      intro z
      have z : nI j < nI 2 := z
      have z := (nI_ltI (by omega) (by decide)).mp z
      exact q2 (nI_le (a := j) (b := 1) (by omega) (by decide))
    unfold k_set
    rw [q3, Bool.or_false, decide_eq_false this, Bool.and_false]
/-! thing -/
def w_come (σ : zSg) (n : Nat) (x y z : Int32) : zSg := z_up (z_up (z_up (z_up (z_up σ 54 n x) 55 (3 * n) y) 55 (3 * n + 1) 5) 55 (3 * n + 2) z) 50 11 (nI (n + 1))
def w_thing (σ : zSg) (n : Nat) (x y z : Int32) : zSg := bif k_thing x y z then (if n = 8 then σ else w_come σ n x y z) else σ
theorem t_thing {X : zXs} {d n : Nat} {σ : zSg} {τ : Nat → Nat → Int64} {r : Option Nat} {x y z : Int32} (hd : 1 ≤ d) (h8 : n ≤ 8) (hm : σ 50 11 = nI n) : zF X d m_X7_thing [.ref 50, .int x, .int y, .int z] L0 (mm σ τ r) (some (.int (v_thing n x y z))) (mm (w_thing σ n x y z) τ r) := by
  have bad : k_thing x y z = false → zT X d m_X7_thing (fun w2 L2 μ2 => w2 = some (.int (v_thing n x y z)) ∧ L2 = L0 ∧ μ2 = mm (w_thing σ n x y z) τ r) 0 0 36 [some (.ref 50), some (.int x), some (.int y), some (.int z)] [] L0 (mm σ τ r) := by
    intro e
    unfold v_thing w_thing
    rw [e]
    refine zT.step ct_X7_thing_ok ?_
    refine zT.step ct_X7_thing_ok ?_
    exact And.intro rfl (And.intro rfl rfl)
  refine zF.of mk_X7_thing rfl ?_
  refine zT.step ct_X7_thing_ok ?_
  refine zT.step ct_X7_thing_ok ?_
  refine zT.step ct_X7_thing_ok ?_
  refine zT.step ct_X7_thing_ok ?_
  refine zT.step ct_X7_thing_ok ?_
  refine And.intro (by omega) (zF.use (t_inR (m := 5) (by decide) rfl) ?_)
  refine zT.step ct_X7_thing_ok ?_
  refine And.intro (fun q => bad (by unfold k_thing; rw [fb0 q]; rfl)) (fun q1 => ?_)
  have q1 := fb1 q1
  refine zT.step ct_X7_thing_ok ?_
  refine zT.step ct_X7_thing_ok ?_
  refine zT.step ct_X7_thing_ok ?_
  refine zT.step ct_X7_thing_ok ?_
  refine zT.step ct_X7_thing_ok ?_
  refine And.intro (by omega) (zF.use (t_inR (m := 9) (by decide) rfl) ?_)
  refine zT.step ct_X7_thing_ok ?_
  refine And.intro (fun q => bad (by unfold k_thing; rw [fb0 q, Bool.and_false]; rfl)) (fun q2 => ?_)
  have q2 := fb1 q2
  refine zT.step ct_X7_thing_ok ?_
  refine zT.step ct_X7_thing_ok ?_
  refine zT.step ct_X7_thing_ok ?_
  refine zT.step ct_X7_thing_ok ?_
  refine zT.step ct_X7_thing_ok ?_
  refine And.intro (by omega) (zF.use (t_inR (m := 29) (by decide) rfl) ?_)
  refine zT.step ct_X7_thing_ok ?_
  refine And.intro (fun q => bad (by unfold k_thing; rw [fb0 q, Bool.and_false])) (fun q3 => ?_)
  have q3 := fb1 q3
  have ek : k_thing x y z = true := by unfold k_thing; rw [q1, q2, q3]; rfl
  unfold v_thing w_thing
  rw [ek]
  refine zT.step ct_X7_thing_ok ?_
  refine zT.step ct_X7_thing_ok ?_
  refine And.intro ⟨by decide, _, rfl⟩ ?_
  refine zT.step ct_X7_thing_ok ?_
  refine zT.step ct_X7_thing_ok ?_
  refine And.intro (fun q => ?_) (fun q => ?_)
  · have q : σ 50 11 = nI 8 := q
    rw [hm] at q
    have q := (nI_eq (by omega) (by decide)).mp q
    refine zT.step ct_X7_thing_ok ?_
    refine zT.step ct_X7_thing_ok ?_
    refine And.intro ?_ (And.intro rfl ?_)
    · show _ = some (Value.int (if n = 8 then -4 else nI n)); rw [if_pos q]
    · show _ = mm (if n = 8 then σ else _) τ r; rw [if_pos q]
  · have q : ¬ σ 50 11 = nI 8 := q
    rw [hm] at q
    have q : ¬ n = 8 := fun z => q (by rw [z])
    refine zT.step ct_X7_thing_ok ?_
    refine zT.step ct_X7_thing_ok ?_
    refine And.intro ⟨by decide, _, rfl⟩ ?_
    refine zT.step ct_X7_thing_ok ?_
    refine zT.step ct_X7_thing_ok ?_
    refine And.intro ⟨by decide, _, rfl⟩ ?_
    refine zT.step ct_X7_thing_ok ?_
    refine zT.step ct_X7_thing_ok ?_
    refine Exists.intro n (And.intro ⟨hm, by decide, 8, rfl, by omega, by decide⟩ ?_)
    refine zT.step ct_X7_thing_ok ?_
    refine zT.step ct_X7_thing_ok ?_
    refine And.intro ⟨by decide, _, rfl⟩ ?_
    refine zT.step ct_X7_thing_ok ?_
    refine zT.step ct_X7_thing_ok ?_
    refine zT.step ct_X7_thing_ok ?_
    refine And.intro ⟨by decide, _, rfl⟩ ?_
    refine zT.step ct_X7_thing_ok ?_
    refine zT.step ct_X7_thing_ok ?_
    refine zT.step ct_X7_thing_ok ?_
    refine Exists.intro (3 * n) (And.intro ⟨?_, by decide, 24, rfl, by omega, by decide⟩ ?_)
    · show nI 3 * z_up σ 54 n x 50 11 = _
      rw [zu_n _ _ _ _ _ (by decide), hm, nI_mulN]
    refine zT.step ct_X7_thing_ok ?_
    refine zT.step ct_X7_thing_ok ?_
    refine And.intro ⟨by decide, _, rfl⟩ ?_
    refine zT.step ct_X7_thing_ok ?_
    refine zT.step ct_X7_thing_ok ?_
    refine zT.step ct_X7_thing_ok ?_
    refine And.intro ⟨by decide, _, rfl⟩ ?_
    refine zT.step ct_X7_thing_ok ?_
    refine zT.step ct_X7_thing_ok ?_
    refine zT.step ct_X7_thing_ok ?_
    refine zT.step ct_X7_thing_ok ?_
    refine zT.step ct_X7_thing_ok ?_
    refine Exists.intro (3 * n + 1) (And.intro ⟨?_, by decide, 24, rfl, by omega, by decide⟩ ?_)
    · show nI 3 * z_up (z_up σ 54 n x) 55 (3 * n) y 50 11 + nI 1 = _
      rw [zu_n _ _ _ _ _ (by decide), zu_n _ _ _ _ _ (by decide), hm, nI_3x]
    refine zT.step ct_X7_thing_ok ?_
    refine zT.step ct_X7_thing_ok ?_
    refine And.intro ⟨by decide, _, rfl⟩ ?_
    refine zT.step ct_X7_thing_ok ?_
    refine zT.step ct_X7_thing_ok ?_
    refine zT.step ct_X7_thing_ok ?_
    refine And.intro ⟨by decide, _, rfl⟩ ?_
    refine zT.step ct_X7_thing_ok ?_
    refine zT.step ct_X7_thing_ok ?_
    refine zT.step ct_X7_thing_ok ?_
    refine zT.step ct_X7_thing_ok ?_
    refine zT.step ct_X7_thing_ok ?_
    refine Exists.intro (3 * n + 2) (And.intro ⟨?_, by decide, 24, rfl, by omega, by decide⟩ ?_)
    · show nI 3 * z_up (z_up (z_up σ 54 n x) 55 (3 * n) y) 55 (3 * n + 1) 5 50 11 + nI 2 = _
      rw [zu_n _ _ _ _ _ (by decide), zu_n _ _ _ _ _ (by decide), zu_n _ _ _ _ _ (by decide), hm, nI_3x]
    refine zT.step ct_X7_thing_ok ?_
    refine zT.step ct_X7_thing_ok ?_
    refine zT.step ct_X7_thing_ok ?_
    refine And.intro ⟨by decide, _, rfl⟩ ?_
    refine zT.step ct_X7_thing_ok ?_
    refine zT.step ct_X7_thing_ok ?_
    refine zT.step ct_X7_thing_ok ?_
    refine And.intro ⟨by decide, _, rfl⟩ ?_
    refine zT.step ct_X7_thing_ok ?_
    refine zT.step ct_X7_thing_ok ?_
    refine And.intro ⟨by decide, _, rfl⟩ ?_
    refine zT.step ct_X7_thing_ok ?_
    refine zT.step ct_X7_thing_ok ?_
    refine zT.step ct_X7_thing_ok ?_
    have e11 : z_up (z_up (z_up (z_up σ 54 n x) 55 (3 * n) y) 55 (3 * n + 1) 5) 55 (3 * n + 2) z 50 11 + 1 = nI (n + 1) := by
      rw [zu_n _ _ _ _ _ (by decide), zu_n _ _ _ _ _ (by decide), zu_n _ _ _ _ _ (by decide), zu_n _ _ _ _ _ (by decide), hm, nI_1]
    refine And.intro ?_ (And.intro rfl ?_)
    · show some (Value.int (z_up (z_up (z_up (z_up (z_up σ 54 n x) 55 (3 * n) y) 55 (3 * n + 1) 5) 55 (3 * n + 2) z) 50 11 (z_up (z_up (z_up (z_up σ 54 n x) 55 (3 * n) y) 55 (3 * n + 1) 5) 55 (3 * n + 2) z 50 11 + 1) 50 11 - 1)) = some (Value.int (if n = 8 then -4 else nI n))
      rw [e11, z_up_s, nI_pred, if_neg q]
    · show mm (z_up (z_up (z_up (z_up (z_up σ 54 n x) 55 (3 * n) y) 55 (3 * n + 1) 5) 55 (3 * n + 2) z) 50 11 (z_up (z_up (z_up (z_up σ 54 n x) 55 (3 * n) y) 55 (3 * n + 1) 5) 55 (3 * n + 2) z 50 11 + 1)) τ r = mm (if n = 8 then σ else w_come σ n x y z) τ r
      rw [e11, if_neg q]
      rfl
