/-! fits, thing, taken -/
def f_fit (lo hi v : Int32) : Bool := decide (¬ v < lo ∧ ¬ hi < v)
def lwO (w : Nat) : Int32 := (z_oc.getD 0 []).getD w 0
def hiO (w : Nat) : Int32 := (z_oc.getD 1 []).getD w 0
theorem s_fits {X : zXs} {d w : Nat} {L : List zSh} {μ : zMem} {v : Int32} (hw : w < 6) : zF X d m_X6_fits [.int (nI w), .int v] L μ (some (.int (f_b (f_fit (lwO w) (hiO w) v)))) μ := by
  have no : f_fit (lwO w) (hiO w) v = false → zT X d m_X6_fits (fun u L2 μ2 => u = some (.int (f_b (f_fit (lwO w) (hiO w) v))) ∧ L2 = L ∧ μ2 = μ) 0 0 34 [some (.int (nI w)), some (.int v)] [] L μ := by
    intro h
    refine zT.step ct_X6_fits_ok ?_
    refine zT.step ct_X6_fits_ok ?_
    exact And.intro rfl (And.intro (by rw [h]; rfl) (And.intro rfl rfl))
  refine zF.of mk_X6_fits rfl ?_
  refine zT.step ct_X6_fits_ok ?_
  refine zT.step ct_X6_fits_ok ?_
  refine And.intro (fun q => absurd q (nI_pos (by omega))) (fun q => ?_)
  refine zT.step ct_X6_fits_ok ?_
  refine zT.step ct_X6_fits_ok ?_
  refine zT.step ct_X6_fits_ok ?_
  refine And.intro ⟨by decide, by decide⟩ ?_
  refine zT.step ct_X6_fits_ok ?_
  refine And.intro (fun q => ?_) (fun q => ?_)
  · have := (i_le (x := Int32.ofNat 6) (y := nI w) rfl rfl (by omega) (by omega)).mp q
    omega
  refine zT.step ct_X6_fits_ok ?_
  refine zT.step ct_X6_fits_ok ?_
  refine zT.step ct_X6_fits_ok ?_
  refine zT.step ct_X6_fits_ok ?_
  refine Exists.intro w (And.intro ⟨rfl, ⟨by decide, by decide⟩, hw, (show (6 : Nat) ≤ 1000000 by decide)⟩ ?_)
  refine zT.step ct_X6_fits_ok ?_
  refine And.intro (fun q => no (decide_eq_false fun z => z.1 q)) (fun q1 => ?_)
  refine zT.step ct_X6_fits_ok ?_
  refine zT.step ct_X6_fits_ok ?_
  refine zT.step ct_X6_fits_ok ?_
  refine zT.step ct_X6_fits_ok ?_
  refine Exists.intro w (And.intro ⟨rfl, ⟨by decide, by decide⟩, hw, (show (6 : Nat) ≤ 1000000 by decide)⟩ ?_)
  refine zT.step ct_X6_fits_ok ?_
  refine And.intro (fun q => no (decide_eq_false fun z => z.2 q)) (fun q2 => ?_)
  refine zT.step ct_X6_fits_ok ?_
  refine zT.step ct_X6_fits_ok ?_
  refine zT.step ct_X6_fits_ok ?_
  have h : f_fit (lwO w) (hiO w) v = true := decide_eq_true ⟨q1, q2⟩
  exact And.intro rfl (And.intro (by rw [h]; rfl) (And.intro rfl rfl))
theorem fit_rg {v : Int32} {m : Nat} (hm : m + 1 < 2 ^ 31) : f_fit 0 (nI m) v = rg v (m + 1) := by
  unfold f_fit rg
  rw [decide_eq_decide, Int32.not_lt, Int32.not_lt, le_lt hm]
theorem fit5 (v : Int32) : f_fit (lwO 5) (hiO 5) v = rg v 6 := fit_rg (m := 5) (by decide)
theorem fit2 (v : Int32) : f_fit (lwO 2) (hiO 2) v = rg v 10 := fit_rg (m := 9) (by decide)
theorem fit4 (v : Int32) : f_fit (lwO 4) (hiO 4) v = rg v 30 := fit_rg (m := 29) (by decide)
def u_come (σ : zSg) (n : Nat) (x y z : Int32) : zSg := z_up (z_up (z_up (z_up (z_up σ (8 + n) 0 x) (8 + n) 1 y) (8 + n) 2 5) (8 + n) 3 z) 1 2 (nI (n + 1))
theorem s_come {X : zXs} {d n : Nat} {σ : zSg} {τ : Nat → Nat → Int64} {r : Option Nat} {x y z : Int32} (hn : n ≤ 8) (hm : σ 1 2 = nI n) : zF X d m_X4_come [.ref 1, .int x, .int y, .int z] L0 (mm σ τ r) (some (.int (if n = 8 then -4 else nI n))) (mm (if n = 8 then σ else u_come σ n x y z) τ r) := by
  refine zF.of mk_X4_come rfl ?_
  refine zT.step ct_X4_come_ok ?_
  refine zT.step ct_X4_come_ok ?_
  refine And.intro ⟨by decide, _, rfl⟩ ?_
  refine zT.step ct_X4_come_ok ?_
  refine zT.step ct_X4_come_ok ?_
  refine And.intro ⟨by decide, _, rfl⟩ ?_
  refine zT.step ct_X4_come_ok ?_
  refine And.intro ⟨by decide, rfl⟩ ?_
  refine zT.step ct_X4_come_ok ?_
  refine And.intro (fun q => ?_) (fun q => ?_)
  · have q : σ 1 2 < Int32.ofNat 8 := q
    rw [hm] at q
    have hn8 : n < 8 := (i_lt (x := nI n) (y := Int32.ofNat 8) rfl rfl (by omega) (by omega)).mp q
    rw [if_neg (show ¬ n = 8 by omega), if_neg (show ¬ n = 8 by omega)]
    refine zT.step ct_X4_come_ok ?_
    refine zT.step ct_X4_come_ok ?_
    refine And.intro ⟨by decide, _, rfl⟩ ?_
    refine zT.step ct_X4_come_ok ?_
    refine zT.step ct_X4_come_ok ?_
    refine And.intro ⟨by decide, _, rfl⟩ ?_
    refine zT.step ct_X4_come_ok ?_
    refine Exists.intro n (And.intro ⟨hm, by decide, 8, rfl, hn8, by decide⟩ ?_)
    refine zT.step ct_X4_come_ok ?_
    refine zT.step ct_X4_come_ok ?_
    refine zT.step ct_X4_come_ok ?_
    refine zT.step ct_X4_come_ok ?_
    refine And.intro (L0_thing hn8) ?_
    refine zT.step ct_X4_come_ok ?_
    refine zT.step ct_X4_come_ok ?_
    refine zT.step ct_X4_come_ok ?_
    refine And.intro (L0_thing hn8) ?_
    refine zT.step ct_X4_come_ok ?_
    refine zT.step ct_X4_come_ok ?_
    refine zT.step ct_X4_come_ok ?_
    refine And.intro (L0_thing hn8) ?_
    refine zT.step ct_X4_come_ok ?_
    refine zT.step ct_X4_come_ok ?_
    refine zT.step ct_X4_come_ok ?_
    refine And.intro (L0_thing hn8) ?_
    refine zT.step ct_X4_come_ok ?_
    refine zT.step ct_X4_come_ok ?_
    refine zT.step ct_X4_come_ok ?_
    refine And.intro ⟨by decide, _, rfl⟩ ?_
    refine zT.step ct_X4_come_ok ?_
    refine zT.step ct_X4_come_ok ?_
    refine zT.step ct_X4_come_ok ?_
    refine And.intro ⟨by decide, _, rfl⟩ ?_
    refine zT.step ct_X4_come_ok ?_
    refine zT.step ct_X4_come_ok ?_
    refine And.intro ⟨by decide, _, rfl⟩ ?_
    refine zT.step ct_X4_come_ok ?_
    refine zT.step ct_X4_come_ok ?_
    refine zT.step ct_X4_come_ok ?_
    have e1 : ∀ A B C D : Int32, z_up (z_up (z_up (z_up σ (8 + n) 0 A) (8 + n) 1 B) (8 + n) 2 C) (8 + n) 3 D 1 2 = nI n := by
      intro A B C D
      rw [zu_n _ _ _ _ _ (by omega), zu_n _ _ _ _ _ (by omega), zu_n _ _ _ _ _ (by omega), zu_n _ _ _ _ _ (by omega), hm]
    refine And.intro ?_ (And.intro rfl ?_)
    · show some (Value.int (z_up (z_up (z_up (z_up (z_up σ (8 + n) 0 x) (8 + n) 1 y) (8 + n) 2 5) (8 + n) 3 z) 1 2 (z_up (z_up (z_up (z_up σ (8 + n) 0 x) (8 + n) 1 y) (8 + n) 2 5) (8 + n) 3 z 1 2 + 1) 1 2 - 1)) = _
      rw [e1, z_up_s, nI_1, nI_pred]
    · show mm (z_up (z_up (z_up (z_up (z_up σ (8 + n) 0 x) (8 + n) 1 y) (8 + n) 2 5) (8 + n) 3 z) 1 2 (z_up (z_up (z_up (z_up σ (8 + n) 0 x) (8 + n) 1 y) (8 + n) 2 5) (8 + n) 3 z 1 2 + 1)) τ r = _
      rw [e1, nI_1]
      rfl
  · have q : ¬ σ 1 2 < Int32.ofNat 8 := q
    rw [hm] at q
    have hn8 : n = 8 := by
      have : ¬ n < 8 := fun z => q ((i_lt (x := nI n) (y := Int32.ofNat 8) rfl rfl (by omega) (by omega)).mpr z)
      omega
    rw [if_pos hn8, if_pos hn8]
    refine zT.step ct_X4_come_ok ?_
    refine zT.step ct_X4_come_ok ?_
    exact And.intro rfl (And.intro rfl rfl)
def k_thing (x y z : Int32) : Bool := rg x 6 && rg y 10 && rg z 30
def v_thing (n : Nat) (x y z : Int32) : Int32 := bif k_thing x y z then (if n = 8 then -4 else nI n) else -2
def u_thing (σ : zSg) (n : Nat) (x y z : Int32) : zSg := bif k_thing x y z then (if n = 8 then σ else u_come σ n x y z) else σ
theorem s_thing {X : zXs} {d n : Nat} {σ : zSg} {τ : Nat → Nat → Int64} {r : Option Nat} {x y z : Int32} (hd : 1 ≤ d) (hn : n ≤ 8) (hm : σ 1 2 = nI n) : zF X d m_X6_thing [.ref 0, .int x, .int y, .int z] L0 (mm σ τ r) (some (.int (v_thing n x y z))) (mm (u_thing σ n x y z) τ r) := by
  have bad : k_thing x y z = false → zT X d m_X6_thing (fun w L2 μ2 => w = some (.int (v_thing n x y z)) ∧ L2 = L0 ∧ μ2 = mm (u_thing σ n x y z) τ r) 0 0 24 [some (.ref 0), some (.int x), some (.int y), some (.int z)] [] L0 (mm σ τ r) := by
    intro h
    refine zT.step ct_X6_thing_ok ?_
    refine zT.step ct_X6_thing_ok ?_
    exact And.intro (by unfold v_thing; rw [h]; rfl) (And.intro rfl (by unfold u_thing; rw [h]; rfl))
  refine zF.of mk_X6_thing rfl ?_
  refine zT.step ct_X6_thing_ok ?_
  refine zT.step ct_X6_thing_ok ?_
  refine zT.step ct_X6_thing_ok ?_
  refine And.intro (by omega) (zF.use (s_fits (w := 5) (by decide)) ?_)
  rw [fit5]
  refine zT.step ct_X6_thing_ok ?_
  refine And.intro (fun q => bad (by unfold k_thing; rw [fb0 q]; rfl)) (fun q => ?_)
  have hx := fb1 q
  refine zT.step ct_X6_thing_ok ?_
  refine zT.step ct_X6_thing_ok ?_
  refine zT.step ct_X6_thing_ok ?_
  refine And.intro (by omega) (zF.use (s_fits (w := 2) (by decide)) ?_)
  rw [fit2]
  refine zT.step ct_X6_thing_ok ?_
  refine And.intro (fun q => bad (by unfold k_thing; rw [fb0 q, hx]; rfl)) (fun q => ?_)
  have hy := fb1 q
  refine zT.step ct_X6_thing_ok ?_
  refine zT.step ct_X6_thing_ok ?_
  refine zT.step ct_X6_thing_ok ?_
  refine And.intro (by omega) (zF.use (s_fits (w := 4) (by decide)) ?_)
  rw [fit4]
  refine zT.step ct_X6_thing_ok ?_
  refine And.intro (fun q => bad (by unfold k_thing; rw [fb0 q, hx, hy]; rfl)) (fun q => ?_)
  have hk : k_thing x y z = true := by unfold k_thing; rw [hx, hy, fb1 q]; rfl
  refine zT.step ct_X6_thing_ok ?_
  refine zT.step ct_X6_thing_ok ?_
  refine And.intro ⟨by decide, _, rfl⟩ ?_
  refine zT.step ct_X6_thing_ok ?_
  refine zT.step ct_X6_thing_ok ?_
  refine zT.step ct_X6_thing_ok ?_
  refine zT.step ct_X6_thing_ok ?_
  refine And.intro ⟨by omega, by decide, _, rfl⟩ (zF.use (s_come hn hm) ?_)
  refine zT.step ct_X6_thing_ok ?_
  exact And.intro (by unfold v_thing; rw [hk]; rfl) (And.intro rfl (by unfold u_thing; rw [hk]; rfl))
/-- the things' kinds, numbers, heights, cells are such as may be -/
def TH1 (f : Nat → Int32) : Prop := (∃ k, k < 6 ∧ f 0 = nI k) ∧ (∃ k, k < 10 ∧ f 1 = nI k) ∧ (∃ k, k < 21 ∧ f 2 = nI k) ∧ ∃ k, k < 30 ∧ f 3 = nI k
def TH (σ : zSg) (n : Nat) : Prop := ∀ i, i < n → TH1 (σ (8 + i))
def abO (w : Nat) : Int32 := (z_oc.getD 2 []).getD w 0
def f_un (k : Int32) : Nat → Int32 → Bool
  | 0, _ => false
  | m + 1, u => bif rg u 6 then (if u = k then true else f_un k m (abO u.toNatClampNeg)) else false
theorem s_isUnder {X : zXs} {d a : Nat} {L : List zSh} {μ : zMem} {k : Int32} (ha : a < 1000000 ∧ ∃ w, L[a]? = some (5, w)) : zF X d m_X5_isUnder [.ref a, .int k] L μ (some (.int (f_b (f_un k 6 (μ.1 a 0))))) μ := by
  have no : ∀ (u : Int32) (j : Nat), f_un k 6 (μ.1 a 0) = false → zT X d m_X5_isUnder (fun w L2 μ2 => w = some (.int (f_b (f_un k 6 (μ.1 a 0)))) ∧ L2 = L ∧ μ2 = μ) 0 0 44 [some (.ref a), some (.int k), some (.int u), some (.int (nI j))] [] L μ := by
    intro u j h
    refine zT.step ct_X5_isUnder_ok ?_
    refine zT.step ct_X5_isUnder_ok ?_
    exact And.intro rfl (And.intro (by rw [h]; rfl) (And.intro rfl rfl))
  have lp : ∀ (m j : Nat) (u : Int32), j + m = 6 → f_un k m u = f_un k 6 (μ.1 a 0) → zT X d m_X5_isUnder (fun w L2 μ2 => w = some (.int (f_b (f_un k 6 (μ.1 a 0)))) ∧ L2 = L ∧ μ2 = μ) 0 0 7 [some (.ref a), some (.int k), some (.int u), some (.int (nI j))] [] L μ := by
    intro m
    induction m with
    | zero =>
      intro j u hj hu
      have hj : j = 6 := by omega
      subst hj
      refine zT.step ct_X5_isUnder_ok ?_
      refine zT.step ct_X5_isUnder_ok ?_
      refine zT.step ct_X5_isUnder_ok ?_
      refine And.intro (fun q => no u 6 hu.symm) (fun q => absurd (show (6 : Int32) ≤ nI 6 by decide) q)
    | succ m ih =>
      intro j u hj hu
      refine zT.step ct_X5_isUnder_ok ?_
      refine zT.step ct_X5_isUnder_ok ?_
      refine zT.step ct_X5_isUnder_ok ?_
      refine And.intro (fun q => ?_) (fun q => ?_)
      · have := (i_le (x := 6) (a := 6) (y := nI j) rfl rfl (by omega) (by omega)).mp q
        omega
      refine zT.step ct_X5_isUnder_ok ?_
      refine zT.step ct_X5_isUnder_ok ?_
      refine And.intro (fun q => no u j (by rw [← hu]; unfold f_un; rw [rg_neg q]; rfl)) (fun q1 => ?_)
      refine zT.step ct_X5_isUnder_ok ?_
      refine zT.step ct_X5_isUnder_ok ?_
      refine zT.step ct_X5_isUnder_ok ?_
      refine And.intro ⟨by decide, by decide⟩ ?_
      refine zT.step ct_X5_isUnder_ok ?_
      refine And.intro (fun q => no u j (by rw [← hu]; unfold f_un; rw [rg_ge (show nI 6 ≤ u from q)]; rfl)) (fun q2 => ?_)
      have hr : rg u 6 = true := rg_in q1 (Int32.not_le.mp q2)
      have hu2 : (if u = k then true else f_un k m (abO u.toNatClampNeg)) = f_un k 6 (μ.1 a 0) := by
        rw [← hu]
        show _ = bif rg u 6 then (if u = k then true else f_un k m (abO u.toNatClampNeg)) else false
        rw [hr]
        rfl
      refine zT.step ct_X5_isUnder_ok ?_
      refine zT.step ct_X5_isUnder_ok ?_
      refine zT.step ct_X5_isUnder_ok ?_
      refine And.intro (fun q => ?_) (fun q => ?_)
      · have q : u = k := q
        rw [if_pos q] at hu2
        refine zT.step ct_X5_isUnder_ok ?_
        refine zT.step ct_X5_isUnder_ok ?_
        exact And.intro rfl (And.intro (by rw [← hu2]; rfl) (And.intro rfl rfl))
      · have q : ¬ u = k := q
        rw [if_neg q] at hu2
        obtain ⟨v, hv, rfl⟩ := rg_t (by omega) hr
        rw [nI_clamp (by omega)] at hu2
        refine zT.step ct_X5_isUnder_ok ?_
        refine zT.step ct_X5_isUnder_ok ?_
        refine zT.step ct_X5_isUnder_ok ?_
        refine Exists.intro v (And.intro ⟨rfl, ⟨by decide, by decide⟩, hv, (show (6 : Nat) ≤ 1000000 by decide)⟩ ?_)
        refine zT.step ct_X5_isUnder_ok ?_
        refine zT.step ct_X5_isUnder_ok ?_
        refine zT.step ct_X5_isUnder_ok ?_
        rw [nI_1]
        exact ih (j + 1) (abO v) (by omega) hu2
  refine zF.of mk_X5_isUnder rfl ?_
  refine zT.step ct_X5_isUnder_ok ?_
  refine zT.step ct_X5_isUnder_ok ?_
  refine And.intro ha ?_
  refine zT.step ct_X5_isUnder_ok ?_
  refine zT.step ct_X5_isUnder_ok ?_
  refine zT.step ct_X5_isUnder_ok ?_
  exact lp 6 0 _ rfl rfl
def v_taken (σ : zSg) (n : Nat) (x y : Int32) : Int32 := bif rg y 6 then (bif rg x n then (bif f_un y 6 (σ (8 + x.toNatClampNeg) 0) then σ (8 + x.toNatClampNeg) 1 else -13) else -11) else -2
theorem s_taken {X : zXs} {d n t : Nat} {σ : zSg} {τ : Nat → Nat → Int64} {r : Option Nat} {x y : Int32} (hd : 1 ≤ d) (hK : CK σ n t) : zF X d m_X6_taken [.ref 0, .int x, .int y] L0 (mm σ τ r) (some (.int (v_taken σ n x y))) (mm σ τ r) := by
  have bad : rg y 6 = false → zT X d m_X6_taken (fun w L2 μ2 => w = some (.int (v_taken σ n x y)) ∧ L2 = L0 ∧ μ2 = mm σ τ r) 0 0 10 [some (.ref 0), some (.int x), some (.int y), none] [] L0 (mm σ τ r) := by
    intro h
    refine zT.step ct_X6_taken_ok ?_
    refine zT.step ct_X6_taken_ok ?_
    exact And.intro (by unfold v_taken; rw [h]; rfl) (And.intro rfl rfl)
  refine zF.of mk_X6_taken rfl ?_
  refine zT.step ct_X6_taken_ok ?_
  refine zT.step ct_X6_taken_ok ?_
  refine And.intro (fun q => bad (rg_neg q)) (fun q1 => ?_)
  refine zT.step ct_X6_taken_ok ?_
  refine zT.step ct_X6_taken_ok ?_
  refine zT.step ct_X6_taken_ok ?_
  refine And.intro (fun q2 => ?_) (fun q2 => bad (rg_ge (Int32.not_lt.mp q2)))
  have hy : rg y 6 = true := rg_in q1 q2
  refine zT.step ct_X6_taken_ok ?_
  refine zT.step ct_X6_taken_ok ?_
  refine And.intro ⟨by decide, _, rfl⟩ ?_
  refine zT.step ct_X6_taken_ok ?_
  refine zT.step ct_X6_taken_ok ?_
  refine And.intro ⟨by omega, by decide, _, rfl⟩ (zF.use (s_hasK hK) ?_)
  refine zT.step ct_X6_taken_ok ?_
  refine And.intro (fun q => ?_) (fun q => ?_)
  · have hx := fb0 q
    refine zT.step ct_X6_taken_ok ?_
    refine zT.step ct_X6_taken_ok ?_
    exact And.intro (by unfold v_taken; rw [hy, hx]; rfl) (And.intro rfl rfl)
  · have hx := fb1 q
    have hn8 := hK.1
    obtain ⟨i, hi, rfl⟩ := rg_t (by omega) hx
    have hv : v_taken σ n (nI i) y = bif f_un y 6 (σ (8 + i) 0) then σ (8 + i) 1 else -13 := by
      unfold v_taken
      rw [hy, hx, nI_clamp (by omega)]
      rfl
    refine zT.step ct_X6_taken_ok ?_
    refine zT.step ct_X6_taken_ok ?_
    refine And.intro ⟨by decide, _, rfl⟩ ?_
    refine zT.step ct_X6_taken_ok ?_
    refine And.intro ⟨by decide, _, rfl⟩ ?_
    refine zT.step ct_X6_taken_ok ?_
    refine zT.step ct_X6_taken_ok ?_
    refine Exists.intro i (And.intro ⟨rfl, by decide, 8, rfl, by omega, by decide⟩ ?_)
    refine zT.step ct_X6_taken_ok ?_
    refine zT.step ct_X6_taken_ok ?_
    refine zT.step ct_X6_taken_ok ?_
    refine zT.step ct_X6_taken_ok ?_
    refine And.intro ⟨by omega, L0_thing (by omega)⟩ (zF.use (s_isUnder (L0_thing (by omega))) ?_)
    rw [mm_1]
    refine zT.step ct_X6_taken_ok ?_
    refine And.intro (fun q => ?_) (fun q => ?_)
    · refine zT.step ct_X6_taken_ok ?_
      refine zT.step ct_X6_taken_ok ?_
      exact And.intro (by rw [hv, fb0 q]; rfl) (And.intro rfl rfl)
    · have hu := fb1 q
      refine zT.step ct_X6_taken_ok ?_
      refine zT.step ct_X6_taken_ok ?_
      refine And.intro (L0_thing (by omega)) ?_
      refine zT.step ct_X6_taken_ok ?_
      refine zT.step ct_X6_taken_ok ?_
      exact And.intro (by rw [hv, hu]; rfl) (And.intro rfl rfl)
