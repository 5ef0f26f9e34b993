/-! isSheet, tells, lookWithoutClouds, dueBySeed, drawn, chance -/
theorem s_isSheet {X : zXs} {d : Nat} {σ : zSg} {τ : Nat → Nat → Int64} {r : Option Nat} {x : Int32} : zF X d m_X6_isSheet [.ref 0, .int x] L0 (mm σ τ r) (some (.int (f_b (rg x 4)))) (mm σ τ r) := by
  have no : rg x 4 = false → zT X d m_X6_isSheet (fun w L2 μ2 => w = some (.int (f_b (rg x 4))) ∧ L2 = L0 ∧ μ2 = mm σ τ r) 0 0 17 [some (.ref 0), some (.int x)] [] L0 (mm σ τ r) := by
    intro h
    refine zT.step ct_X6_isSheet_ok ?_
    refine zT.step ct_X6_isSheet_ok ?_
    exact And.intro rfl (And.intro (by rw [h]; rfl) (And.intro rfl rfl))
  refine zF.of mk_X6_isSheet rfl ?_
  refine zT.step ct_X6_isSheet_ok ?_
  refine zT.step ct_X6_isSheet_ok ?_
  refine And.intro (fun q => no (rg_neg q)) (fun q => ?_)
  refine zT.step ct_X6_isSheet_ok ?_
  refine zT.step ct_X6_isSheet_ok ?_
  refine zT.step ct_X6_isSheet_ok ?_
  refine And.intro ⟨by decide, _, rfl⟩ ?_
  refine zT.step ct_X6_isSheet_ok ?_
  refine And.intro ⟨by decide, rfl⟩ ?_
  refine zT.step ct_X6_isSheet_ok ?_
  refine And.intro (fun q2 => no (rg_ge q2)) (fun q2 => ?_)
  refine zT.step ct_X6_isSheet_ok ?_
  refine zT.step ct_X6_isSheet_ok ?_
  refine zT.step ct_X6_isSheet_ok ?_
  have h : rg x 4 = true := rg_in q (Int32.not_le.mp q2)
  exact And.intro rfl (And.intro (by rw [h]; rfl) (And.intro rfl rfl))
/-- what is told: of thing i by the 13 numbers tl -/
def v_tell (σ : zSg) (n t m i : Nat) (tl : Nat → Int32) (z : Int32) : Int32 :=
  if z = 0 then cFo (fun h => cDu σ n t h i) tl 13 0
  else if z = 1 then cFh (fun h v => cDu (mv σ i 0 (nI v)) n t h i) tl 0 5 13 0 (f_bits (nI 0) (nI 5 + 1))
  else if z = 2 then cFh (fun h v => cDu (mv σ i 1 (nI v)) n t h i) tl 0 9 13 0 (f_bits (nI 0) (nI 9 + 1))
  else if z = 3 then cFh (fun h v => cDu (mv σ i 2 (nI v)) n t h i) tl 1 20 13 0 (f_bits (nI 1) (nI 20 + 1))
  else if z = 4 then cFh (fun h v => cDu (mv σ i 3 (nI v)) n t h i) tl 0 29 13 0 (f_bits (nI 0) (nI 29 + 1))
  else if z = 5 then cPo (cMc (fun h => cDu (z_up σ 1 6 0) n t h i) tl 13) (cMl tl 13) 13 0 (if cMc (fun h => cDu (z_up σ 1 6 0) n t h i) tl 13 = 0 then 1 else 0)
  else cTx (fun t' => cSo (fun h => cDu (z_up σ 1 4 (nI t')) n t' h i) tl 13 0) m
def v_tells (σ : zSg) (n t m : Nat) (x y z : Int32) : Int32 := bif rg x 4 && rg y n && rg z 7 then (if σ (42 + 2 * x.toNatClampNeg) 1 = -1 then -11 else if σ (42 + 2 * x.toNatClampNeg) 2 = 13 then v_tell σ n t m y.toNatClampNeg (σ (43 + 2 * x.toNatClampNeg)) z else -2) else -2
theorem s_tells {X : zXs} {d n t m : Nat} {σ : zSg} {τ : Nat → Nat → Int64} {r : Option Nat} {x y z : Int32} (hd : 7 ≤ d) (hK : CK σ n t) (hm : σ 1 3 = nI m) (hm6 : m ≤ 6) (hW : ∀ t', t' < m → RW σ t') : zC X d 0 0 m_X6_tells [.ref 0, .int x, .int y, .int z] L0 (mm σ τ r) (zA σ τ r (v_tells σ n t m x y z)) := by
  have bad : (rg x 4 && rg y n && rg z 7) = false → zT X d m_X6_tells (zA σ τ r (v_tells σ n t m x y z)) 0 0 29 [some (.ref 0), some (.int x), some (.int y), some (.int z), none] [] L0 (mm σ τ r) := by
    intro h
    refine zT.step ct_X6_tells_ok ?_
    refine zT.step ct_X6_tells_ok ?_
    exact zA.mk (by unfold v_tells; rw [h]; rfl) SE.rf
  refine zC.of mk_X6_tells rfl ?_
  refine zT.step ct_X6_tells_ok ?_
  refine zT.step ct_X6_tells_ok ?_
  refine zT.step ct_X6_tells_ok ?_
  refine And.intro ⟨by omega, by decide, _, rfl⟩ (zF.use s_isSheet ?_)
  refine zT.step ct_X6_tells_ok ?_
  refine And.intro (fun q => ?_) (fun q => ?_)
  · exact bad (by rw [fb0 q]; rfl)
  have hx := fb1 q
  refine zT.step ct_X6_tells_ok ?_
  refine zT.step ct_X6_tells_ok ?_
  refine And.intro ⟨by decide, _, rfl⟩ ?_
  refine zT.step ct_X6_tells_ok ?_
  refine zT.step ct_X6_tells_ok ?_
  refine And.intro ⟨by omega, by decide, _, rfl⟩ (zF.use (s_hasK hK) ?_)
  refine zT.step ct_X6_tells_ok ?_
  refine And.intro (fun q => ?_) (fun q => ?_)
  · exact bad (by rw [fb0 q, hx]; rfl)
  have hy := fb1 q
  refine zT.step ct_X6_tells_ok ?_
  refine zT.step ct_X6_tells_ok ?_
  refine And.intro (fun q => ?_) (fun q => ?_)
  · exact bad (by rw [hx, hy, rg_neg q]; rfl)
  have h0 : ¬ z < 0 := q
  refine zT.step ct_X6_tells_ok ?_
  refine zT.step ct_X6_tells_ok ?_
  refine zT.step ct_X6_tells_ok ?_
  refine And.intro (fun q => ?_) (fun q => ?_)
  · have q : z ≤ nI 6 := q
    have hz : rg z 7 = true := rg_in h0 ((le_lt (by omega)).mp q)
    obtain ⟨s, hs, rfl⟩ := rg_t (by omega) hx
    obtain ⟨i, hi, rfl⟩ := rg_t (by have := hK.1; omega) hy
    have hn8 := hK.1
    have hv : v_tells σ n t m (nI s) (nI i) z = (if σ (42 + 2 * s) 1 = -1 then -11 else if σ (42 + 2 * s) 2 = 13 then v_tell σ n t m i (σ (43 + 2 * s)) z else -2) := by
      unfold v_tells
      rw [hx, hy, hz, nI_clamp (by omega), nI_clamp (by omega)]
      rfl
    refine zT.step ct_X6_tells_ok ?_
    refine zT.step ct_X6_tells_ok ?_
    refine And.intro ⟨by decide, _, rfl⟩ ?_
    refine zT.step ct_X6_tells_ok ?_
    refine zT.step ct_X6_tells_ok ?_
    refine Exists.intro s (And.intro ⟨rfl, by decide, 4, rfl, hs, by decide⟩ ?_)
    refine zT.step ct_X6_tells_ok ?_
    refine zT.step ct_X6_tells_ok ?_
    refine zT.step ct_X6_tells_ok ?_
    refine And.intro ⟨by omega, (L0_sheet hs).1⟩ (zF.use (s_isMissing (L0_sheet hs).1) ?_)
    refine zT.step ct_X6_tells_ok ?_
    refine And.intro (fun q2 => ?_) (fun q2 => ?_)
    · have q2 : ¬ σ (42 + 2 * s) 1 = -1 := of_decide_eq_false (fb0 q2)
      refine zT.step ct_X6_tells_ok ?_
      refine zT.step ct_X6_tells_ok ?_
      refine And.intro (L0_sheet hs).1 ?_
      refine zT.step ct_X6_tells_ok ?_
      refine zT.step ct_X6_tells_ok ?_
      refine And.intro (fun q3 => ?_) (fun q3 => ?_)
      · have q3 : σ (42 + 2 * s) 2 = 13 := q3
        have h13 : z_sh13 σ s := ⟨hs, q3⟩
        rw [hv, if_neg q2, if_pos q3]
        refine zT.step ct_X6_tells_ok ?_
        refine zT.step ct_X6_tells_ok ?_
        by_cases z0 : z = 0
        · refine z_tin (K := fun t => zT _ _ _ _ _ _ t _ _ _ _) z0 0 108 rfl rfl ?_
          refine zT.step ct_X6_tells_ok ?_
          refine zT.step ct_X6_tells_ok ?_
          refine zT.step ct_X6_tells_ok ?_
          refine zT.step ct_X6_tells_ok ?_
          refine And.intro ⟨by omega, by decide, _, rfl⟩ (zC.use (s_firstOtherwise (by omega) hK hi h13) (fun w L2 μ2 hw => ?_))
          obtain ⟨rfl, rfl, σ', rfl, H⟩ := hw
          refine zT.step ct_X6_tells_ok ?_
          exact zA.mk (by unfold v_tell; rw [if_pos z0]) H
        by_cases z1 : z = 1
        · refine z_tin (K := fun t => zT _ _ _ _ _ _ t _ _ _ _) z1 1 116 rfl rfl ?_
          refine zT.step ct_X6_tells_ok ?_
          refine zT.step ct_X6_tells_ok ?_
          refine And.intro ⟨by decide, _, rfl⟩ ?_
          refine zT.step ct_X6_tells_ok ?_
          refine zT.step ct_X6_tells_ok ?_
          refine zT.step ct_X6_tells_ok ?_
          refine zT.step ct_X6_tells_ok ?_
          refine And.intro ⟨by omega, by decide, _, rfl⟩ (zC.use (s_fitting (wn := 5) (k := 0) (lo := 0) (hi := 5) (by omega) hK hi h13 (Or.inl ⟨rfl, rfl, rfl, rfl⟩)) (fun w L2 μ2 hw => ?_))
          obtain ⟨rfl, rfl, σ', rfl, H⟩ := hw
          refine zT.step ct_X6_tells_ok ?_
          exact zA.mk (by unfold v_tell; rw [if_neg z0, if_pos z1]) H
        by_cases z5 : z = 5
        · refine z_tin (K := fun t => zT _ _ _ _ _ _ t _ _ _ _) z5 5 128 rfl rfl ?_
          refine zT.step ct_X6_tells_ok ?_
          refine zT.step ct_X6_tells_ok ?_
          refine zT.step ct_X6_tells_ok ?_
          refine zT.step ct_X6_tells_ok ?_
          refine And.intro ⟨by omega, by decide, _, rfl⟩ (zC.use (s_fittingClouds (by omega) hK hi h13) (fun w L2 μ2 hw => ?_))
          obtain ⟨rfl, rfl, σ', rfl, H⟩ := hw
          refine zT.step ct_X6_tells_ok ?_
          exact zA.mk (by unfold v_tell; rw [if_neg z0, if_neg z1, if_neg (show ¬ z = 2 by rw [z5]; decide), if_neg (show ¬ z = 3 by rw [z5]; decide), if_neg (show ¬ z = 4 by rw [z5]; decide), if_pos z5]) H
        by_cases z6 : z = 6
        · refine z_tin (K := fun t => zT _ _ _ _ _ _ t _ _ _ _) z6 6 136 rfl rfl ?_
          refine zT.step ct_X6_tells_ok ?_
          refine zT.step ct_X6_tells_ok ?_
          refine And.intro ⟨by decide, _, rfl⟩ ?_
          refine zT.step ct_X6_tells_ok ?_
          refine zT.step ct_X6_tells_ok ?_
          refine zT.step ct_X6_tells_ok ?_
          refine And.intro ⟨by omega, by decide, _, rfl⟩ (zC.use (s_fittingTexts (by omega) hK hi h13 hm hm6 hW) (fun w L2 μ2 hw => ?_))
          obtain ⟨rfl, rfl, σ', rfl, H⟩ := hw
          refine zT.step ct_X6_tells_ok ?_
          exact zA.mk (by unfold v_tell; rw [if_neg z0, if_neg z1, if_neg (show ¬ z = 2 by rw [z6]; decide), if_neg (show ¬ z = 3 by rw [z6]; decide), if_neg (show ¬ z = 4 by rw [z6]; decide), if_neg z5]) H
        obtain ⟨zn, hzn, rfl⟩ := rg_t (by omega) hz
        have d0 : zn ≠ 0 := fun e => z0 (by rw [e]; rfl)
        have d1 : zn ≠ 1 := fun e => z1 (by rw [e]; rfl)
        have d5 : zn ≠ 5 := fun e => z5 (by rw [e]; rfl)
        have d6 : zn ≠ 6 := fun e => z6 (by rw [e]; rfl)
        have : zn = 2 ∨ zn = 3 ∨ zn = 4 := by omega
        rcases this with rfl | rfl | rfl
        · refine z_tin (K := fun t => zT _ _ _ _ _ _ t _ _ _ _) (c := 2) rfl 2 147 rfl rfl ?_
          refine zT.step ct_X6_tells_ok ?_
          refine zT.step ct_X6_tells_ok ?_
          refine And.intro ⟨by decide, _, rfl⟩ ?_
          refine zT.step ct_X6_tells_ok ?_
          refine zT.step ct_X6_tells_ok ?_
          refine zT.step ct_X6_tells_ok ?_
          refine zT.step ct_X6_tells_ok ?_
          refine And.intro ⟨by omega, by decide, _, rfl⟩ (zC.use (s_fitting (wn := 2) (k := 1) (lo := 0) (hi := 9) (by omega) hK hi h13 (Or.inr (Or.inl ⟨rfl, rfl, rfl, rfl⟩))) (fun w L2 μ2 hw => ?_))
          obtain ⟨rfl, rfl, σ', rfl, H⟩ := hw
          refine zT.step ct_X6_tells_ok ?_
          exact zA.mk (by unfold v_tell; rw [if_neg z0, if_neg z1, if_pos (by decide)]) H
        · refine z_tin (K := fun t => zT _ _ _ _ _ _ t _ _ _ _) (c := 3) rfl 3 147 rfl rfl ?_
          refine zT.step ct_X6_tells_ok ?_
          refine zT.step ct_X6_tells_ok ?_
          refine And.intro ⟨by decide, _, rfl⟩ ?_
          refine zT.step ct_X6_tells_ok ?_
          refine zT.step ct_X6_tells_ok ?_
          refine zT.step ct_X6_tells_ok ?_
          refine zT.step ct_X6_tells_ok ?_
          refine And.intro ⟨by omega, by decide, _, rfl⟩ (zC.use (s_fitting (wn := 3) (k := 2) (lo := 1) (hi := 20) (by omega) hK hi h13 (Or.inr (Or.inr (Or.inl ⟨rfl, rfl, rfl, rfl⟩)))) (fun w L2 μ2 hw => ?_))
          obtain ⟨rfl, rfl, σ', rfl, H⟩ := hw
          refine zT.step ct_X6_tells_ok ?_
          exact zA.mk (by unfold v_tell; rw [if_neg z0, if_neg z1, if_neg (by decide), if_pos (by decide)]) H
        · refine z_tin (K := fun t => zT _ _ _ _ _ _ t _ _ _ _) (c := 4) rfl 4 147 rfl rfl ?_
          refine zT.step ct_X6_tells_ok ?_
          refine zT.step ct_X6_tells_ok ?_
          refine And.intro ⟨by decide, _, rfl⟩ ?_
          refine zT.step ct_X6_tells_ok ?_
          refine zT.step ct_X6_tells_ok ?_
          refine zT.step ct_X6_tells_ok ?_
          refine zT.step ct_X6_tells_ok ?_
          refine And.intro ⟨by omega, by decide, _, rfl⟩ (zC.use (s_fitting (wn := 4) (k := 3) (lo := 0) (hi := 29) (by omega) hK hi h13 (Or.inr (Or.inr (Or.inr ⟨rfl, rfl, rfl, rfl⟩)))) (fun w L2 μ2 hw => ?_))
          obtain ⟨rfl, rfl, σ', rfl, H⟩ := hw
          refine zT.step ct_X6_tells_ok ?_
          exact zA.mk (by unfold v_tell; rw [if_neg z0, if_neg z1, if_neg (by decide), if_neg (by decide), if_pos (by decide)]) H
      · have q3 : ¬ σ (42 + 2 * s) 2 = 13 := q3
        refine zT.step ct_X6_tells_ok ?_
        refine zT.step ct_X6_tells_ok ?_
        exact zA.mk (by rw [hv, if_neg q2, if_neg q3]) SE.rf
    · have q2 : σ (42 + 2 * s) 1 = -1 := of_decide_eq_true (fb1 q2)
      refine zT.step ct_X6_tells_ok ?_
      refine zT.step ct_X6_tells_ok ?_
      exact zA.mk (by rw [hv, if_pos q2]) SE.rf
  · have q : ¬ z ≤ nI 6 := q
    exact bad (by rw [hx, hy, rg_ge (Int32.not_lt.mp (fun z => q ((le_lt (by omega)).mpr z)))]; rfl)
/-- the clear hours' row -/
theorem CK.c41 {σ : zSg} {n t : Nat} {f : Nat → Int32} (h : CK σ n t) : CK (z_row σ 41 f) n t :=
  ⟨h.1, by rw [z_row_n _ _ _ _ (by decide)]; exact h.2.1, h.2.2.1, by rw [z_row_n _ _ _ _ (by decide)]; exact h.2.2.2.1, fun q hq => by rw [z_row_n _ _ _ _ (by have := h.2.2.1; omega)]; exact h.2.2.2.2.1 q hq, by rw [z_row_n _ _ _ _ (by decide)]; exact h.2.2.2.2.2⟩
theorem c41Al {σ : zSg} {n t h : Nat} {f : Nat → Int32} (hn : n ≤ 8) (ht : t < 6) : cAl (z_row σ 41 f) n t h = cAl σ n t h := by
  have e : ∀ i, i < n → cL (z_row σ 41 f) t h i = cL σ t h i ∧ cD (z_row σ 41 f) t h i = cD σ t h i := by
    intro i hi
    have htv : tvC (z_row σ 41 f) t = tvC σ t := by
      funext q e
      unfold tvC
      rw [z_row_n _ _ _ _ (by omega), z_row_n _ _ _ _ (by omega)]
    unfold cL cD
    rw [htv, z_row_n _ _ _ _ (show (1 : Nat) ≠ 41 by decide), z_row_n _ _ _ _ (show 8 + i ≠ 41 by omega)]
    exact ⟨rfl, rfl⟩
  have es : cS (z_row σ 41 f) n t h (-1) = cS σ n t h (-1) := g_sw_congr (fun i hi => z_row_n _ _ _ _ (by omega)) (fun i hi => (e i hi).1)
  unfold cAl
  rw [es]
  exact f_all_congr n (fun i hi => (e i hi).2)
theorem SE.r41 {a b : zSg} {g : Nat → Int32} {h : Nat} {v : Int32} (s : SE (z_row a 41 g) b) : SE (z_row a 41 (upd g h v)) (z_up b 41 h v) := by
  refine ⟨fun x x1 x4 x5 x6 x7 => ?_, fun y y9 y10 => ?_⟩
  · by_cases hx : x = 41
    · subst hx
      rw [zu_s, z_row_s, s.1 41 (by decide) (by decide) (by decide) (by decide) (by decide), z_row_s]
    · rw [zu_n _ _ _ _ _ hx, z_row_n _ _ _ _ hx, s.1 x x1 x4 x5 x6 x7, z_row_n _ _ _ _ hx]
  · rw [zu_n _ _ _ _ _ (by decide), s.2 y y9 y10, z_row_n _ _ _ _ (by decide), z_row_n _ _ _ _ (by decide)]
theorem s_lookWithoutClouds {X : zXs} {d n t : Nat} {σ : zSg} {τ : Nat → Nat → Int64} {r : Option Nat} (hd : 6 ≤ d) (hK : CK σ n t) : zC X d 0 0 m_X6_lookWithoutClouds [.ref 0] L0 (mm σ τ r) (fun w L2 μ2 => w = none ∧ L2 = L0 ∧ ∃ (σ' : zSg) (g : Nat → Int32), μ2 = mm σ' τ r ∧ SE (z_row σ 41 g) σ' ∧ ∀ h, h < 13 → g h = cAl (z_up σ 1 6 0) n t h) := by
  have lp : ∀ (m h : Nat) (σ1 : zSg) (g : Nat → Int32), h + m = 13 → SE (z_row (z_up σ 1 6 0) 41 g) σ1 → (∀ j, j < h → g j = cAl (z_up σ 1 6 0) n t j) → zT X d m_X6_lookWithoutClouds (fun w L2 μ2 => w = none ∧ L2 = L0 ∧ ∃ (σ' : zSg) (g : Nat → Int32), μ2 = mm σ' τ r ∧ SE (z_row σ 41 g) σ' ∧ ∀ h, h < 13 → g h = cAl (z_up σ 1 6 0) n t h) 0 0 18 [some (.ref 0), some (.int (σ 1 6)), some (.int (nI h))] [] L0 (mm σ1 τ r) := by
    intro m
    induction m with
    | zero =>
      intro h σ1 g hh s1 hg
      have hh : h = 13 := by omega
      subst hh
      have sF : SE (z_row σ 41 g) (z_up σ1 1 6 (σ 1 6)) := by
        have := s1.sq 6 (σ 1 6)
        have e : z_up (z_row (z_up σ 1 6 0) 41 g) 1 6 (σ 1 6) = z_row σ 41 g := by
          funext x y
          unfold z_up z_row
          by_cases hx : x = 1 ∧ y = 6
          · simp [hx]
          · by_cases h41 : x = 41 <;> simp [hx, h41]
        rw [e] at this
        exact this
      refine zT.step ct_X6_lookWithoutClouds_ok ?_
      refine zT.step ct_X6_lookWithoutClouds_ok ?_
      refine zT.step ct_X6_lookWithoutClouds_ok ?_
      refine And.intro (fun q => ?_) (fun q => ?_)
      · refine zT.step ct_X6_lookWithoutClouds_ok ?_
        refine zT.step ct_X6_lookWithoutClouds_ok ?_
        refine And.intro ⟨by decide, _, rfl⟩ ?_
        refine zT.step ct_X6_lookWithoutClouds_ok ?_
        refine zT.step ct_X6_lookWithoutClouds_ok ?_
        refine And.intro ⟨by decide, _, rfl⟩ ?_
        refine zT.step ct_X6_lookWithoutClouds_ok ?_
        exact And.intro rfl (And.intro rfl ⟨_, g, rfl, sF, hg⟩)
      · exact absurd (show (13 : Int32) ≤ nI 13 by decide) q
    | succ m ih =>
      intro h σ1 g hh s1 hg
      refine zT.step ct_X6_lookWithoutClouds_ok ?_
      refine zT.step ct_X6_lookWithoutClouds_ok ?_
      refine zT.step ct_X6_lookWithoutClouds_ok ?_
      refine And.intro (fun q => ?_) (fun q => ?_)
      · have := (i_le (x := 13) (a := 13) (y := nI h) rfl rfl (by omega) (by omega)).mp q
        omega
      refine zT.step ct_X6_lookWithoutClouds_ok ?_
      refine zT.step ct_X6_lookWithoutClouds_ok ?_
      refine And.intro ⟨by decide, _, rfl⟩ ?_
      refine zT.step ct_X6_lookWithoutClouds_ok ?_
      refine zT.step ct_X6_lookWithoutClouds_ok ?_
      refine And.intro ⟨by omega, by decide, _, rfl⟩ (zC.use (s_lookK (by omega) (hK.cl.c41.se s1) (show h < 13 by omega)) (fun w L2 μ2 hw => ?_))
      obtain ⟨rfl, rfl, σ', rfl, H⟩ := hw
      refine zT.step ct_X6_lookWithoutClouds_ok ?_
      refine zT.step ct_X6_lookWithoutClouds_ok ?_
      refine And.intro ⟨by decide, _, rfl⟩ ?_
      refine zT.step ct_X6_lookWithoutClouds_ok ?_
      refine zT.step ct_X6_lookWithoutClouds_ok ?_
      refine zT.step ct_X6_lookWithoutClouds_ok ?_
      refine And.intro ⟨by decide, _, rfl⟩ ?_
      refine zT.step ct_X6_lookWithoutClouds_ok ?_
      refine And.intro ⟨by omega, by decide, _, rfl⟩ (zF.use (s_dueOfAll (by omega) hK.1 ((hK.cl.c41.se s1).se H.se).2.1) ?_)
      rw [H.all, s1.eAl, c41Al hK.1 hK.2.2.1]
      refine zT.step ct_X6_lookWithoutClouds_ok ?_
      refine Exists.intro h (And.intro ⟨rfl, by decide, 13, rfl, by omega, by decide⟩ ?_)
      refine zT.step ct_X6_lookWithoutClouds_ok ?_
      refine zT.step ct_X6_lookWithoutClouds_ok ?_
      rw [nI_1]
      refine ih (h + 1) (z_up σ' 41 h (cAl (z_up σ 1 6 0) n t h)) (upd g h (cAl (z_up σ 1 6 0) n t h)) (by omega) ((s1.trans H.se).r41) (fun j hj => ?_)
      unfold upd
      by_cases hjh : j = h
      · rw [if_pos hjh, hjh]
      · rw [if_neg hjh]
        exact hg j (by omega)
  refine zC.of mk_X6_lookWithoutClouds rfl ?_
  refine zT.step ct_X6_lookWithoutClouds_ok ?_
  refine zT.step ct_X6_lookWithoutClouds_ok ?_
  refine And.intro ⟨by decide, _, rfl⟩ ?_
  refine zT.step ct_X6_lookWithoutClouds_ok ?_
  refine And.intro ⟨by decide, _, rfl⟩ ?_
  refine zT.step ct_X6_lookWithoutClouds_ok ?_
  refine zT.step ct_X6_lookWithoutClouds_ok ?_
  refine zT.step ct_X6_lookWithoutClouds_ok ?_
  refine And.intro ⟨by decide, _, rfl⟩ ?_
  refine zT.step ct_X6_lookWithoutClouds_ok ?_
  refine zT.step ct_X6_lookWithoutClouds_ok ?_
  refine And.intro ⟨by decide, _, rfl⟩ ?_
  refine zT.step ct_X6_lookWithoutClouds_ok ?_
  refine zT.step ct_X6_lookWithoutClouds_ok ?_
  exact lp 13 0 (z_up σ 1 6 0) (z_up σ 1 6 0 41) rfl (by rw [z_row_id]; exact SE.rf) (fun j hj => absurd hj (by omega))
