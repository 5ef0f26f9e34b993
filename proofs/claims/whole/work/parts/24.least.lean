/-! one thing is tried: leastByCell, best, place -/
/-- thing i's field k would be v -/
def mv (σ : zSg) (i k : Nat) (v : Int32) : zSg := z_up σ (8 + i) k v
theorem mv_mv (σ : zSg) (i k : Nat) (v w : Int32) : mv (mv σ i k v) i k w = mv σ i k w := by
  funext x y
  unfold mv z_up
  by_cases h : x = 8 + i ∧ y = k <;> simp [h]
theorem mv_id (σ : zSg) (i k : Nat) : mv σ i k (σ (8 + i) k) = σ := by
  funext x y
  unfold mv z_up
  by_cases h : x = 8 + i ∧ y = k
  · rw [if_pos h, h.1, h.2]
  · rw [if_neg h]
theorem mv_o (σ : zSg) (i k : Nat) (v : Int32) (b : Nat) (h : b ≠ 8 + i) : mv σ i k v b = σ b := zu_n _ _ _ _ _ h
theorem SE.mv {a b : zSg} (h : SE a b) (i k : Nat) (v : Int32) : SE (mv a i k v) (mv b i k v) := by
  refine ⟨fun x x1 x4 x5 x6 x7 => ?_, fun y y9 y10 => ?_⟩
  · by_cases hx : x = 8 + i
    · subst hx
      show z_up b (8 + i) k v (8 + i) = z_up a (8 + i) k v (8 + i)
      rw [zu_s, zu_s, h.1 _ x1 x4 x5 x6 x7]
    · rw [mv_o _ _ _ _ _ hx, mv_o _ _ _ _ _ hx]
      exact h.1 x x1 x4 x5 x6 x7
  · rw [mv_o _ _ _ _ 1 (by omega), mv_o _ _ _ _ 1 (by omega)]
    exact h.2 y y9 y10
theorem mv_tv (σ : zSg) (i k : Nat) (v : Int32) (hi : i < 8) (t : Nat) : tvC (mv σ i k v) t = tvC σ t := by
  funext q e
  unfold tvC
  rw [mv_o _ _ _ _ _ (by omega), mv_o _ _ _ _ _ (by omega)]
theorem mv_RW {σ : zSg} {i k : Nat} {v : Int32} {t : Nat} (hi : i < 8) (h : RW σ t) : RW (mv σ i k v) t := fun q hq => by rw [mv_o _ _ _ _ _ (by omega)]; exact h q hq
theorem CK.mv {σ : zSg} {n t i k : Nat} {v : Int32} (hi : i < 8) (h : CK σ n t) : CK (mv σ i k v) n t :=
  ⟨h.1, by rw [mv_o _ _ _ _ 1 (by omega)]; exact h.2.1, h.2.2.1, by rw [mv_o _ _ _ _ 1 (by omega)]; exact h.2.2.2.1, mv_RW hi h.2.2.2.2.1, by rw [mv_o _ _ _ _ 1 (by omega)]; exact h.2.2.2.2.2⟩
theorem mv_L {σ : zSg} {i k : Nat} {v : Int32} (hi : i < 8) {t h j : Nat} (hj : j ≠ i) : cL (mv σ i k v) t h j = cL σ t h j ∧ cD (mv σ i k v) t h j = cD σ t h j := by
  unfold cL cD
  rw [mv_tv _ _ _ _ hi, mv_o _ _ _ _ 1 (by omega), mv_o _ _ _ _ (8 + j) (by omega)]
  exact ⟨rfl, rfl⟩
/-- a look taken anew for one thing alone -/
theorem LK.re {σ σ2 σ3 : zSg} {n t h i : Nat} (hi : i < 8) (hm : σ 1 11 = -1) (s2 : SE σ σ2) (w2 : ∀ j, j < n → j ≠ i → σ2 4 j = cL σ t h j ∧ σ2 5 j = cD σ t h j) (o3 : ∀ b, b ≠ 4 → b ≠ 5 → b ≠ 6 → b ≠ 7 → σ3 b = σ2 b) (l3 : σ3 4 = upd (σ2 4) i (g_L (σ2 1 6) (σ2 (8 + i)) (σ2 1 5) (tvC σ2 t) h)) (d3 : σ3 5 = upd (σ2 5) i (g_D (σ2 1 6) (σ2 (8 + i)) (σ2 1 5) (tvC σ2 t) h)) :
    LK σ (z_hs σ3 (g_sw n (fun j => σ3 (8 + j)) (σ3 4) h (σ3 1 11)).1 (g_sw n (fun j => σ3 (8 + j)) (σ3 4) h (σ3 1 11)).2.1) n t h (-1) := by
  have r1 : σ3 1 = σ2 1 := o3 1 (by decide) (by decide) (by decide) (by decide)
  have hc : cL σ t h i = g_L (σ2 1 6) (σ2 (8 + i)) (σ2 1 5) (tvC σ2 t) h ∧ cD σ t h i = g_D (σ2 1 6) (σ2 (8 + i)) (σ2 1 5) (tvC σ2 t) h := by
    unfold cL cD
    rw [s2.th, s2.tv, s2.2 6 (by decide) (by decide), s2.2 5 (by decide) (by decide)]
    exact ⟨rfl, rfl⟩
  have rows : ∀ j, j < n → σ3 4 j = cL σ t h j ∧ σ3 5 j = cD σ t h j := by
    intro j hj
    rw [l3, d3, ← hc.1, ← hc.2]
    by_cases hji : j = i
    · subst hji
      rw [upd_at, upd_at]
      exact ⟨rfl, rfl⟩
    · unfold upd
      rw [if_neg hji, if_neg hji]
      exact w2 j hj hji
  have e : g_sw n (fun j => σ3 (8 + j)) (σ3 4) h (σ3 1 11) = cS σ n t h (-1) := by
    rw [r1, s2.2 11 (by decide) (by decide), hm]
    exact g_sw_congr (fun j _ => (o3 _ (by omega) (by omega) (by omega) (by omega)).trans (s2.th j)) (fun j hj => (rows j hj).1)
  rw [e]
  refine ⟨fun b b1 b4 b5 b6 b7 => ?_, fun y y9 y10 => ?_, fun j hj => ?_, rfl, rfl⟩
  · rw [z_hs_o _ _ _ _ b1, o3 b b4 b5 b6 b7]
    exact s2.1 b b1 b4 b5 b6 b7
  · show z_up (z_up σ3 1 9 _) 1 10 _ 1 y = _
    rw [z_up_n _ _ _ _ _ _ (fun z => y10 z.2), z_up_n _ _ _ _ _ _ (fun z => y9 z.2), r1]
    exact s2.2 y y9 y10
  · rw [z_hs_o _ _ _ _ (by decide), z_hs_o _ _ _ _ (by decide)]
    exact rows j hj
def cLeast (val : Nat → Int32) : Nat → Int32 × Int32
  | 0 => (-1, 0)
  | c + 1 => if (cLeast val c).1 = -1 ∨ val c < (cLeast val c).2 then (nI c, val c) else cLeast val c
def cVal (σ : zSg) (n t h i : Nat) (all : Int32) (c : Nat) : Int32 := if all = 0 then cDu (mv σ i 3 (nI c)) n t h i else cAl (mv σ i 3 (nI c)) n t h
theorem s_leastByCell {X : zXs} {d n t h i : Nat} {σ : zSg} {τ : Nat → Nat → Int64} {r : Option Nat} {al w : Int32} (hd : 6 ≤ d) (hK : CK σ n t) (hi : i < n) (hh : h < 13) : zC X d 0 0 m_X4_leastByCell [.ref 1, .int (nI i), .int (nI h), .int al, .int w] L0 (mm σ τ r) (zA σ τ r (if w = 0 then (cLeast (cVal σ n t h i al) 30).2 else (cLeast (cVal σ n t h i al) 30).1)) := by
  have hi8 : i < 8 := by have := hK.1; omega
  have lp : ∀ (m c : Nat) (σ1 : zSg) (v : Int32), c + m = 30 → SE (mv σ i 3 v) σ1 → (∀ j, j < n → j ≠ i → σ1 4 j = cL σ t h j ∧ σ1 5 j = cD σ t h j) → zT X d m_X4_leastByCell (zA σ τ r (if w = 0 then (cLeast (cVal σ n t h i al) 30).2 else (cLeast (cVal σ n t h i al) 30).1)) 0 0 29 [some (.ref 1), some (.int (nI i)), some (.int (nI h)), some (.int al), some (.int w), some (.ref (8 + i)), some (.int (σ (8 + i) 3)), some (.int (cLeast (cVal σ n t h i al) c).1), some (.int (cLeast (cVal σ n t h i al) c).2), some (.int (nI c)), none] [] L0 (mm σ1 τ r) := by
    intro m
    induction m with
    | zero =>
      intro c σ1 v hc s1 w1
      have hc : c = 30 := by omega
      subst hc
      have sF : SE σ (z_up σ1 (8 + i) 3 (σ (8 + i) 3)) := by
        have := s1.mv i 3 (σ (8 + i) 3)
        rw [mv_mv, mv_id] at this
        exact this
      refine zT.step ct_X4_leastByCell_ok ?_
      refine zT.step ct_X4_leastByCell_ok ?_
      refine zT.step ct_X4_leastByCell_ok ?_
      refine And.intro (fun q => ?_) (fun q => ?_)
      · refine zT.step ct_X4_leastByCell_ok ?_
        refine zT.step ct_X4_leastByCell_ok ?_
        refine zT.step ct_X4_leastByCell_ok ?_
        refine And.intro (L0_thing hi8) ?_
        refine zT.step ct_X4_leastByCell_ok ?_
        refine zT.step ct_X4_leastByCell_ok ?_
        refine And.intro (fun q2 => ?_) (fun q2 => ?_)
        · have q2 : w = 0 := q2
          refine zT.step ct_X4_leastByCell_ok ?_
          refine zT.step ct_X4_leastByCell_ok ?_
          exact zA.mk (by rw [if_pos q2]) sF
        · have q2 : ¬ w = 0 := q2
          refine zT.step ct_X4_leastByCell_ok ?_
          refine zT.step ct_X4_leastByCell_ok ?_
          refine zT.step ct_X4_leastByCell_ok ?_
          exact zA.mk (by rw [if_neg q2]) sF
      · exact absurd (show (30 : Int32) ≤ nI 30 by decide) q
    | succ m ih =>
      intro c σ1 v hc s1 w1
      refine zT.step ct_X4_leastByCell_ok ?_
      refine zT.step ct_X4_leastByCell_ok ?_
      refine zT.step ct_X4_leastByCell_ok ?_
      refine And.intro (fun q => ?_) (fun q => ?_)
      · have := (i_le (x := 30) (a := 30) (y := nI c) rfl rfl (by omega) (by omega)).mp q
        omega
      have s2 : SE (mv σ i 3 (nI c)) (z_up σ1 (8 + i) 3 (nI c)) := by
        have := s1.mv i 3 (nI c)
        rw [mv_mv] at this
        exact this
      generalize hσ2 : z_up σ1 (8 + i) 3 (nI c) = σ2 at s2
      have w2 : ∀ j, j < n → j ≠ i → σ2 4 j = cL (mv σ i 3 (nI c)) t h j ∧ σ2 5 j = cD (mv σ i 3 (nI c)) t h j := by
        intro j hj hji
        rw [← hσ2, zu_n _ _ _ _ _ (by omega), zu_n _ _ _ _ _ (by omega), (mv_L hi8 hji).1, (mv_L hi8 hji).2]
        exact w1 j hj hji
      have K2 := (hK.mv (i := i) (k := 3) (v := nI c) hi8).se s2
      refine zT.step ct_X4_leastByCell_ok ?_
      refine zT.step ct_X4_leastByCell_ok ?_
      refine zT.step ct_X4_leastByCell_ok ?_
      refine And.intro (L0_thing hi8) ?_
      refine zT.eqm (μ' := mm σ2 τ r) (congrArg (fun s => mm s τ r) hσ2) ?_
      refine zT.step ct_X4_leastByCell_ok ?_
      refine zT.step ct_X4_leastByCell_ok ?_
      refine zT.step ct_X4_leastByCell_ok ?_
      refine zT.step ct_X4_leastByCell_ok ?_
      refine And.intro ⟨by omega, by decide, _, rfl⟩ (zC.use (s_measure (t := t) (by omega) hi8 hh K2.2.2.1 K2.2.2.2.1 K2.2.2.2.2.1) (fun w L2 μ2 hw => ?_))
      obtain ⟨rfl, rfl, σ3, rfl, o3, l3, d3⟩ := hw
      refine zT.step ct_X4_leastByCell_ok ?_
      refine zT.step ct_X4_leastByCell_ok ?_
      refine zT.step ct_X4_leastByCell_ok ?_
      refine And.intro ⟨by omega, by decide, _, rfl⟩ (zF.use (s_cast (by omega) hK.1 (by rw [o3 1 (by decide) (by decide) (by decide) (by decide)]; exact K2.2.1) hh) ?_)
      have H := LK.re hi8 (hK.mv (i := i) (k := 3) (v := nI c) hi8).2.2.2.2.2 s2 w2 o3 l3 d3
      generalize z_hs σ3 (g_sw n (fun j => σ3 (8 + j)) (σ3 4) h (σ3 1 11)).1 (g_sw n (fun j => σ3 (8 + j)) (σ3 4) h (σ3 1 11)).2.1 = σ4 at H ⊢
      have w4 : ∀ j, j < n → j ≠ i → σ4 4 j = cL σ t h j ∧ σ4 5 j = cD σ t h j := by
        intro j hj hji
        rw [← (mv_L (σ := σ) (k := 3) (v := nI c) hi8 hji).1, ← (mv_L (σ := σ) (k := 3) (v := nI c) hi8 hji).2]
        exact H.2.2.1 j hj
      have nx := ih (c + 1) σ4 (nI c) (by omega) H.se w4
      have go : ∀ x, x = cVal σ n t h i al c → zT X d m_X4_leastByCell (zA σ τ r (if w = 0 then (cLeast (cVal σ n t h i al) 30).2 else (cLeast (cVal σ n t h i al) 30).1)) 0 0 70 [some (.ref 1), some (.int (nI i)), some (.int (nI h)), some (.int al), some (.int w), some (.ref (8 + i)), some (.int (σ (8 + i) 3)), some (.int (cLeast (cVal σ n t h i al) c).1), some (.int (cLeast (cVal σ n t h i al) c).2), some (.int (nI c)), none] [.int x] L0 (mm σ4 τ r) := by
        intro x hx
        subst hx
        have take : (cLeast (cVal σ n t h i al) c).1 = -1 ∨ cVal σ n t h i al c < (cLeast (cVal σ n t h i al) c).2 → zT X d m_X4_leastByCell (zA σ τ r (if w = 0 then (cLeast (cVal σ n t h i al) 30).2 else (cLeast (cVal σ n t h i al) 30).1)) 0 0 85 [some (.ref 1), some (.int (nI i)), some (.int (nI h)), some (.int al), some (.int w), some (.ref (8 + i)), some (.int (σ (8 + i) 3)), some (.int (cLeast (cVal σ n t h i al) c).1), some (.int (cLeast (cVal σ n t h i al) c).2), some (.int (nI c)), some (.int (cVal σ n t h i al c))] [] L0 (mm σ4 τ r) := by
          intro q3
          have e : cLeast (cVal σ n t h i al) (c + 1) = (nI c, cVal σ n t h i al c) := if_pos q3
          rw [e] at nx
          refine zT.step ct_X4_leastByCell_ok ?_
          refine zT.step ct_X4_leastByCell_ok ?_
          refine zT.step ct_X4_leastByCell_ok ?_
          refine zT.step ct_X4_leastByCell_ok ?_
          refine zT.step ct_X4_leastByCell_ok ?_
          refine zT.step ct_X4_leastByCell_ok ?_
          rw [nI_1]
          refine zT.drop 10 ?_
          exact nx
        refine zT.step ct_X4_leastByCell_ok ?_
        refine zT.step ct_X4_leastByCell_ok ?_
        refine zT.step ct_X4_leastByCell_ok ?_
        refine zT.step ct_X4_leastByCell_ok ?_
        refine And.intro (fun q3 => take (Or.inl q3)) (fun q3 => ?_)
        refine zT.step ct_X4_leastByCell_ok ?_
        refine zT.step ct_X4_leastByCell_ok ?_
        refine zT.step ct_X4_leastByCell_ok ?_
        refine And.intro (fun q4 => ?_) (fun q4 => take (Or.inr (Int32.not_le.mp q4)))
        have e : cLeast (cVal σ n t h i al) (c + 1) = cLeast (cVal σ n t h i al) c := if_neg (fun z => z.elim q3 (fun z => absurd z (Int32.not_lt.mpr q4)))
        rw [e] at nx
        refine zT.step ct_X4_leastByCell_ok ?_
        refine zT.step ct_X4_leastByCell_ok ?_
        rw [nI_1]
        refine zT.drop 10 ?_
        exact nx
      refine zT.step ct_X4_leastByCell_ok ?_
      refine zT.step ct_X4_leastByCell_ok ?_
      refine And.intro (fun q2 => ?_) (fun q2 => ?_)
      · have q2 : al = 0 := q2
        refine zT.step ct_X4_leastByCell_ok ?_
        refine zT.step ct_X4_leastByCell_ok ?_
        refine zT.step ct_X4_leastByCell_ok ?_
        refine And.intro ⟨by omega, by decide, _, rfl⟩ (zF.use (s_dueOf hi8) ?_)
        exact go _ (by unfold cVal; rw [if_pos q2]; exact H.due hi)
      · have q2 : ¬ al = 0 := q2
        refine zT.step ct_X4_leastByCell_ok ?_
        refine zT.step ct_X4_leastByCell_ok ?_
        refine And.intro ⟨by omega, by decide, _, rfl⟩ (zF.use (s_dueOfAll (by omega) hK.1 ((hK.mv (i := i) (k := 3) (v := nI c) hi8).se H.se).2.1) ?_)
        refine zT.step ct_X4_leastByCell_ok ?_
        exact go _ (by unfold cVal; rw [if_neg q2]; exact H.all)
  refine zC.of mk_X4_leastByCell rfl ?_
  refine zT.step ct_X4_leastByCell_ok ?_
  refine zT.step ct_X4_leastByCell_ok ?_
  refine And.intro ⟨by decide, _, rfl⟩ ?_
  refine zT.step ct_X4_leastByCell_ok ?_
  refine zT.step ct_X4_leastByCell_ok ?_
  refine Exists.intro i (And.intro ⟨rfl, by decide, 8, rfl, hi8, by decide⟩ ?_)
  refine zT.step ct_X4_leastByCell_ok ?_
  refine zT.step ct_X4_leastByCell_ok ?_
  refine zT.step ct_X4_leastByCell_ok ?_
  refine And.intro (L0_thing hi8) ?_
  refine zT.step ct_X4_leastByCell_ok ?_
  refine zT.step ct_X4_leastByCell_ok ?_
  refine zT.step ct_X4_leastByCell_ok ?_
  refine zT.step ct_X4_leastByCell_ok ?_
  refine zT.step ct_X4_leastByCell_ok ?_
  refine zT.step ct_X4_leastByCell_ok ?_
  refine zT.step ct_X4_leastByCell_ok ?_
  refine zT.step ct_X4_leastByCell_ok ?_
  refine And.intro ⟨by omega, by decide, _, rfl⟩ (zC.use (s_lookK (by omega) hK hh) (fun w L2 μ2 hw => ?_))
  obtain ⟨rfl, rfl, σ', rfl, H⟩ := hw
  refine zT.step ct_X4_leastByCell_ok ?_
  refine zT.step ct_X4_leastByCell_ok ?_
  exact lp 30 0 σ' (σ (8 + i) 3) rfl (by rw [mv_id]; exact H.se) (fun j hj _ => H.2.2.1 j hj)
def v_best (σ : zSg) (n t : Nat) (al x y z : Int32) : Int32 := bif rg x n && rg y 13 && rg z 2 then (if z = 0 then (cLeast (cVal σ n t y.toNatClampNeg x.toNatClampNeg al) 30).1 else (cLeast (cVal σ n t y.toNatClampNeg x.toNatClampNeg al) 30).2) else -2
theorem s_best {X : zXs} {d n t : Nat} {σ : zSg} {τ : Nat → Nat → Int64} {r : Option Nat} {x y z : Int32} (hd : 7 ≤ d) (hK : CK σ n t) : zC X d 0 0 m_X6_best [.ref 0, .int x, .int y, .int z] L0 (mm σ τ r) (zA σ τ r (v_best σ n t 0 x y z)) := by
  have bad : (rg x n && rg y 13 && rg z 2) = false → zT X d m_X6_best (zA σ τ r (v_best σ n t 0 x y z)) 0 0 27 [some (.ref 0), some (.int x), some (.int y), some (.int z)] [] L0 (mm σ τ r) := by
    intro h
    refine zT.step ct_X6_best_ok ?_
    refine zT.step ct_X6_best_ok ?_
    exact zA.mk (by unfold v_best; rw [h]; rfl) SE.rf
  refine zC.of mk_X6_best rfl ?_
  refine zT.step ct_X6_best_ok ?_
  refine zT.step ct_X6_best_ok ?_
  refine And.intro ⟨by decide, _, rfl⟩ ?_
  refine zT.step ct_X6_best_ok ?_
  refine zT.step ct_X6_best_ok ?_
  refine And.intro ⟨by omega, by decide, _, rfl⟩ (zF.use (s_hasK hK) ?_)
  refine zT.step ct_X6_best_ok ?_
  refine And.intro (fun q => ?_) (fun q => ?_)
  · exact bad (by rw [fb0 q]; rfl)
  have hx := fb1 q
  refine zT.step ct_X6_best_ok ?_
  refine zT.step ct_X6_best_ok ?_
  refine And.intro (by omega) (zF.use s_isHourK ?_)
  refine zT.step ct_X6_best_ok ?_
  refine And.intro (fun q => ?_) (fun q => ?_)
  · exact bad (by rw [fb0 q, hx]; rfl)
  have hy := fb1 q
  refine zT.step ct_X6_best_ok ?_
  refine zT.step ct_X6_best_ok ?_
  refine And.intro (fun q => ?_) (fun q => ?_)
  · exact bad (by rw [hx, hy, rg_neg q]; rfl)
  have h0 : ¬ z < 0 := q
  refine zT.step ct_X6_best_ok ?_
  refine zT.step ct_X6_best_ok ?_
  refine zT.step ct_X6_best_ok ?_
  refine And.intro (fun q => ?_) (fun q => ?_)
  · have q : z ≤ nI 1 := q
    have hz : rg z 2 = true := rg_in h0 ((le_lt (by omega)).mp q)
    obtain ⟨i, hi, rfl⟩ := rg_t (by have := hK.1; omega) hx
    obtain ⟨h, hh, rfl⟩ := rg_t (by omega) hy
    have hv : v_best σ n t 0 (nI i) (nI h) z = (if z = 0 then (cLeast (cVal σ n t h i 0) 30).1 else (cLeast (cVal σ n t h i 0) 30).2) := by
      unfold v_best
      have hi8 : i < 8 := by have := hK.1; omega
      rw [hx, hy, hz, nI_clamp (by omega), nI_clamp (by omega)]
      rfl
    refine zT.step ct_X6_best_ok ?_
    refine zT.step ct_X6_best_ok ?_
    refine And.intro ⟨by decide, _, rfl⟩ ?_
    refine zT.step ct_X6_best_ok ?_
    refine zT.step ct_X6_best_ok ?_
    refine zT.step ct_X6_best_ok ?_
    refine zT.step ct_X6_best_ok ?_
    refine zT.step ct_X6_best_ok ?_
    refine And.intro (fun z0 => ?_) (fun z0 => ?_)
    · have z0 : z = 0 := z0
      refine zT.step ct_X6_best_ok ?_
      refine zT.step ct_X6_best_ok ?_
      refine zT.step ct_X6_best_ok ?_
      refine And.intro ⟨by omega, by decide, _, rfl⟩ (zC.use (s_leastByCell (by omega) hK hi hh) (fun w L2 μ2 hw => ?_))
      obtain ⟨rfl, rfl, σ', rfl, H⟩ := hw
      refine zT.step ct_X6_best_ok ?_
      exact zA.mk (by rw [hv, if_pos z0]; rfl) H
    · have z0 : ¬ z = 0 := z0
      refine zT.step ct_X6_best_ok ?_
      refine zT.step ct_X6_best_ok ?_
      refine And.intro ⟨by omega, by decide, _, rfl⟩ (zC.use (s_leastByCell (by omega) hK hi hh) (fun w L2 μ2 hw => ?_))
      obtain ⟨rfl, rfl, σ', rfl, H⟩ := hw
      refine zT.step ct_X6_best_ok ?_
      exact zA.mk (by rw [hv, if_neg z0]; rfl) H
  · have q : ¬ z ≤ nI 1 := q
    exact bad (by rw [hx, hy, rg_ge (Int32.not_lt.mp (fun z => q ((le_lt (by omega)).mpr z)))]; rfl)
theorem s_place {X : zXs} {d n t : Nat} {σ : zSg} {τ : Nat → Nat → Int64} {r : Option Nat} {x y z : Int32} (hd : 7 ≤ d) (hK : CK σ n t) : zC X d 0 0 m_X6_place [.ref 0, .int x, .int y, .int z] L0 (mm σ τ r) (zA σ τ r (v_best σ n t 1 x y z)) := by
  have bad : (rg x n && rg y 13 && rg z 2) = false → zT X d m_X6_place (zA σ τ r (v_best σ n t 1 x y z)) 0 0 27 [some (.ref 0), some (.int x), some (.int y), some (.int z)] [] L0 (mm σ τ r) := by
    intro h
    refine zT.step ct_X6_place_ok ?_
    refine zT.step ct_X6_place_ok ?_
    exact zA.mk (by unfold v_best; rw [h]; rfl) SE.rf
  refine zC.of mk_X6_place rfl ?_
  refine zT.step ct_X6_place_ok ?_
  refine zT.step ct_X6_place_ok ?_
  refine And.intro ⟨by decide, _, rfl⟩ ?_
  refine zT.step ct_X6_place_ok ?_
  refine zT.step ct_X6_place_ok ?_
  refine And.intro ⟨by omega, by decide, _, rfl⟩ (zF.use (s_hasK hK) ?_)
  refine zT.step ct_X6_place_ok ?_
  refine And.intro (fun q => ?_) (fun q => ?_)
  · exact bad (by rw [fb0 q]; rfl)
  have hx := fb1 q
  refine zT.step ct_X6_place_ok ?_
  refine zT.step ct_X6_place_ok ?_
  refine And.intro (by omega) (zF.use s_isHourK ?_)
  refine zT.step ct_X6_place_ok ?_
  refine And.intro (fun q => ?_) (fun q => ?_)
  · exact bad (by rw [fb0 q, hx]; rfl)
  have hy := fb1 q
  refine zT.step ct_X6_place_ok ?_
  refine zT.step ct_X6_place_ok ?_
  refine And.intro (fun q => ?_) (fun q => ?_)
  · exact bad (by rw [hx, hy, rg_neg q]; rfl)
  have h0 : ¬ z < 0 := q
  refine zT.step ct_X6_place_ok ?_
  refine zT.step ct_X6_place_ok ?_
  refine zT.step ct_X6_place_ok ?_
  refine And.intro (fun q => ?_) (fun q => ?_)
  · have q : z ≤ nI 1 := q
    have hz : rg z 2 = true := rg_in h0 ((le_lt (by omega)).mp q)
    obtain ⟨i, hi, rfl⟩ := rg_t (by have := hK.1; omega) hx
    obtain ⟨h, hh, rfl⟩ := rg_t (by omega) hy
    have hv : v_best σ n t 1 (nI i) (nI h) z = (if z = 0 then (cLeast (cVal σ n t h i 1) 30).1 else (cLeast (cVal σ n t h i 1) 30).2) := by
      unfold v_best
      have hi8 : i < 8 := by have := hK.1; omega
      rw [hx, hy, hz, nI_clamp (by omega), nI_clamp (by omega)]
      rfl
    refine zT.step ct_X6_place_ok ?_
    refine zT.step ct_X6_place_ok ?_
    refine And.intro ⟨by decide, _, rfl⟩ ?_
    refine zT.step ct_X6_place_ok ?_
    refine zT.step ct_X6_place_ok ?_
    refine zT.step ct_X6_place_ok ?_
    refine zT.step ct_X6_place_ok ?_
    refine zT.step ct_X6_place_ok ?_
    refine And.intro (fun z0 => ?_) (fun z0 => ?_)
    · have z0 : z = 0 := z0
      refine zT.step ct_X6_place_ok ?_
      refine zT.step ct_X6_place_ok ?_
      refine zT.step ct_X6_place_ok ?_
      refine And.intro ⟨by omega, by decide, _, rfl⟩ (zC.use (s_leastByCell (by omega) hK hi hh) (fun w L2 μ2 hw => ?_))
      obtain ⟨rfl, rfl, σ', rfl, H⟩ := hw
      refine zT.step ct_X6_place_ok ?_
      exact zA.mk (by rw [hv, if_pos z0]; rfl) H
    · have z0 : ¬ z = 0 := z0
      refine zT.step ct_X6_place_ok ?_
      refine zT.step ct_X6_place_ok ?_
      refine And.intro ⟨by omega, by decide, _, rfl⟩ (zC.use (s_leastByCell (by omega) hK hi hh) (fun w L2 μ2 hw => ?_))
      obtain ⟨rfl, rfl, σ', rfl, H⟩ := hw
      refine zT.step ct_X6_place_ok ?_
      exact zA.mk (by rw [hv, if_neg z0]; rfl) H
  · have q : ¬ z ≤ nI 1 := q
    exact bad (by rw [hx, hy, rg_ge (Int32.not_lt.mp (fun z => q ((le_lt (by omega)).mpr z)))]; rfl)
