/-! the reference's reading methods at opening 3 (printed by lev.py) -/
theorem t_atom3 {X : zXs} : PFn X m_X7_atom3 3 22 (fun f sz => pr_one f sz (pr_D f sz 2)) := by
  intro d σ τ r t sz s hd hs2 hR
  obtain ⟨f, hf⟩ : ∃ f, f = tB σ t := ⟨_, rfl⟩
  obtain ⟨D, hD⟩ : ∃ D : Nat → PT, D = pr_L f sz (pr_D f sz 1) := ⟨_, rfl⟩
  have eG : (fun f sz => pr_one f sz (pr_D f sz 2)) (tB σ t) sz s = pr_one f sz (some D) s := by rw [← hf, hD]; rfl
  rw [eG]
  have hP : ∀ l, PK sz (D l) := fun l => by rw [hD]; exact PK.L (PK.D 1) l
  have ca : ∀ (σ1 : zSg) (τ1 : Nat → Nat → Int64) (s1 : PS), SP σ σ1 → s1.2 = false → RP σ1 τ1 t sz s1 4 → zC X (d - 1) 0 0 m_X7_atom4 [.ref 50] L0 (mm σ1 τ1 r) (zV σ r t sz 4 (D 5 s1)) := by
    intro σ1 τ1 s1 hS h2 h3
    refine zC.wk (t_atom4 (X := X) (d - 1) σ1 τ1 r t sz s1 (by omega) h2 h3) (fun w L2 μ2 hw => ?_)
    obtain ⟨hL, σ', τ', v, hv, hμ, hSP, hRP, hx⟩ := hw
    rw [hS.bytes, ← hf] at hRP hx
    dsimp only at hRP hx
    have e5 : D 5 s1 = pr_one f sz (pr_D f sz 1) s1 := by rw [hD]; rfl
    rw [← e5] at hRP hx
    exact ⟨hL, σ', τ', v, hv, hμ, hS.trans hSP, hRP, fun h st => by rw [← ev_sp hS]; exact hx h st⟩
  have ce : ∀ (σ1 : zSg) (τ1 : Nat → Nat → Int64) (s1 : PS), SP σ σ1 → s1.2 = false → RP σ1 τ1 t sz s1 4 → zC X (d - 1) 0 0 m_X7_either4 [.ref 50] L0 (mm σ1 τ1 r) (zV σ r t sz 4 (D 0 s1)) := by
    intro σ1 τ1 s1 hS h2 h3
    refine zC.wk (t_either4 (X := X) (d - 1) σ1 τ1 r t sz s1 (by omega) h2 h3) (fun w L2 μ2 hw => ?_)
    obtain ⟨hL, σ', τ', v, hv, hμ, hSP, hRP, hx⟩ := hw
    rw [hS.bytes, ← hf] at hRP hx
    dsimp only at hRP hx
    have e5 : D 0 s1 = pr_0 f sz (pr_D f sz 1) s1 := by rw [hD]; rfl
    rw [← e5] at hRP hx
    exact ⟨hL, σ', τ', v, hv, hμ, hS.trans hSP, hRP, fun h st => by rw [← ev_sp hS]; exact hx h st⟩
  clear hD eG
  have sg1 : zF X (d - 1) m_X7_isSign [.ref 50, .int 45] L0 (mm σ τ r) (some (.int (f_b (decide (ps_t f sz s = -16))))) (mm σ τ r) := by rw [hf]; exact t_isSign (q := (45, -16)) (by decide) hR
  have sg2 : zF X (d - 1) m_X7_isSign [.ref 50, .int 40] L0 (mm σ τ r) (some (.int (f_b (decide (ps_t f sz s = -20))))) (mm σ τ r) := by rw [hf]; exact t_isSign (q := (40, -20)) (by decide) hR
  have ff := t_fail (X := X) (d := d - 1) (r := r) hR
  have nm := t_name (X := X) (d := d - 1) (r := r) (by omega) hR
  have nx := t_nextP (X := X) (d := d - 1) (r := r) (by omega) hR hs2
  have op := t_opens (X := X) (d := d - 1) (r := r) (by omega) (by decide) hR hs2
  have hF := hR.2.2.2.2.1 hs2
  rw [← hf] at hF nx nm op
  have h25 : σ 50 25 = 0 := by rw [hR.2.2.2.1, hs2]; rfl
  have hT : ps_t f sz s = lx_t f sz s.1 := ps_tf hs2
  have dead : pr_one f sz (some D) s = (ps_f s, []) → ∀ σ' : zSg, ∀ v : Int32, SP σ σ' → RP σ' τ t sz (ps_f s) 3 → zT X d m_X7_atom3 (zV σ r t sz 3 (pr_one f sz (some D) s)) 0 0 161 [some (.ref 50), some (.int v)] [] L0 (mm σ' τ r) := by
    intro e2 σ' v h1 h2
    refine zT.step ct_X7_atom3_ok ?_
    refine zT.step ct_X7_atom3_ok ?_
    rw [e2]
    exact And.intro rfl ⟨σ', τ, v, rfl, rfl, h1, h2, fun h => by cases h⟩
  refine zC.of mk_X7_atom3 rfl ?_
  refine zT.step ct_X7_atom3_ok ?_
  refine zT.step ct_X7_atom3_ok ?_
  refine zT.step ct_X7_atom3_ok ?_
  refine zT.step ct_X7_atom3_ok ?_
  refine zT.step ct_X7_atom3_ok ?_
  refine And.intro ⟨by omega, by decide, _, rfl⟩ (zF.use sg1 ?_)
  refine zT.step ct_X7_atom3_ok ?_
  refine And.intro (fun h1 => ?_) (fun h1 => ?_)
  case refine_2 =>
    have h1 := of_decide_eq_true (fb1 h1)
    have kk := (tok_sg (f := f) (sz := sz) (p := s.1) (q := (45, -16)) (by decide)).mp (by rw [← hT]; exact h1)
    have e2 : pr_one f sz (some D) s = ((D 5 (ps_a f sz s)).1, (D 5 (ps_a f sz s)).2 ++ [-19]) := by
      unfold pr_one
      rw [h1, if_pos (by decide), if_pos rfl]
      rfl
    rw [e2]
    refine zT.step ct_X7_atom3_ok ?_
    refine zT.step ct_X7_atom3_ok ?_
    refine And.intro ⟨by omega, by decide, _, rfl⟩ (zC.use (op (Or.inr (Or.inr kk.1))) (fun w L2 μ2 hw => ?_))
    obtain ⟨rfl, rfl, σ1, τ1, rfl, h3, h4⟩ := hw
    refine zT.step ct_X7_atom3_ok ?_
    refine And.intro (fun z => absurd z (by decide)) (fun _ => ?_)
    have c1 := ca σ1 τ1 (ps_a f sz s) h3 hs2 h4
    generalize D 5 (ps_a f sz s) = pp at c1 ⊢
    refine zT.step ct_X7_atom3_ok ?_
    refine zT.step ct_X7_atom3_ok ?_
    refine And.intro ⟨by omega, by decide, _, rfl⟩ (zC.use c1 (fun w L2 μ2 hw => ?_))
    obtain ⟨rfl, σ2, τ2, v, rfl, rfl, h5, h6, h7⟩ := hw
    have h8 := h6.op (o' := 3) (show σ2 50 24 - 1 = nI 3 by rw [h6.2.2.1]; rfl)
    refine zT.step ct_X7_atom3_ok ?_
    refine zT.step ct_X7_atom3_ok ?_
    refine zT.step ct_X7_atom3_ok ?_
    refine zT.step ct_X7_atom3_ok ?_
    refine zT.step ct_X7_atom3_ok ?_
    refine And.intro ⟨by decide, _, rfl⟩ ?_
    refine zT.step ct_X7_atom3_ok ?_
    refine zT.step ct_X7_atom3_ok ?_
    refine zT.step ct_X7_atom3_ok ?_
    refine And.intro ⟨by decide, _, rfl⟩ ?_
    refine zT.step ct_X7_atom3_ok ?_
    refine zT.step ct_X7_atom3_ok ?_
    refine zT.step ct_X7_atom3_ok ?_
    refine And.intro rfl ⟨_, τ2, -v, rfl, rfl, h5.trans (SP.up rfl), h8, fun hb st => ?_⟩
    have hb : pp.1.2 = false := hb
    show exL (ev σ) (pp.2 ++ [-19]) st = _
    rw [exL_app, h7 hb st]
    rfl
  have h1 := of_decide_eq_false (fb0 h1)
  refine zT.step ct_X7_atom3_ok ?_
  refine zT.step ct_X7_atom3_ok ?_
  refine zT.step ct_X7_atom3_ok ?_
  refine And.intro ⟨by omega, by decide, _, rfl⟩ (zF.use sg2 ?_)
  refine zT.step ct_X7_atom3_ok ?_
  refine And.intro (fun h2 => ?_) (fun h2 => ?_)
  case refine_2 =>
    have h2 := of_decide_eq_true (fb1 h2)
    have kk := (tok_sg (f := f) (sz := sz) (p := s.1) (q := (40, -20)) (by decide)).mp (by rw [← hT]; exact h2)
    have e2 : pr_one f sz (some D) s = (ps_x f sz (-21) (D 0 (ps_a f sz s)).1, (D 0 (ps_a f sz s)).2) := by
      unfold pr_one
      rw [h2, if_pos (by decide), if_neg (by decide)]
      dsimp only
      rw [if_pos rfl]
    rw [e2]
    refine zT.step ct_X7_atom3_ok ?_
    refine zT.step ct_X7_atom3_ok ?_
    refine And.intro ⟨by omega, by decide, _, rfl⟩ (zC.use (op (Or.inr (Or.inr kk.1))) (fun w L2 μ2 hw => ?_))
    obtain ⟨rfl, rfl, σ1, τ1, rfl, h3, h4⟩ := hw
    refine zT.step ct_X7_atom3_ok ?_
    refine And.intro (fun z => absurd z (by decide)) (fun _ => ?_)
    have c1 := ce σ1 τ1 (ps_a f sz s) h3 hs2 h4
    generalize D 0 (ps_a f sz s) = pp at c1 ⊢
    refine zT.step ct_X7_atom3_ok ?_
    refine zT.step ct_X7_atom3_ok ?_
    refine And.intro ⟨by omega, by decide, _, rfl⟩ (zC.use c1 (fun w L2 μ2 hw => ?_))
    obtain ⟨rfl, σ2, τ2, v, rfl, rfl, h5, h6, h7⟩ := hw
    have sg3 : zF X (d - 1) m_X7_isSign [.ref 50, .int 41] L0 (mm σ2 τ2 r) (some (.int (f_b (decide (ps_t f sz pp.1 = -21))))) (mm σ2 τ2 r) := by have := t_isSign (X := X) (d := d - 1) (r := r) (q := (41, -21)) (by decide) h6; rw [h5.bytes, ← hf] at this; exact this
    have close : ∀ (σ3 : zSg) (s3 : PS), SP σ σ3 → RP σ3 τ2 t sz s3 4 → s3.1 = pp.1.1 → ps_x f sz (-21) pp.1 = (if s3.2 = true then s3 else ps_a f sz s3) → (s3.2 = false → s3 = pp.1 ∧ ps_t f sz pp.1 = -21) → zT X d m_X7_atom3 (zV σ r t sz 3 (ps_x f sz (-21) pp.1, pp.2)) 0 0 71 [some (.ref 50), some (.int v)] [] L0 (mm σ3 τ2 r) := by
      intro σ3 s3 hS3 hR3 hp3 hx3 hg3
      rw [hx3]
      have e24 : σ3 50 24 - 1 = nI 3 := by rw [hR3.2.2.1]; rfl
      have h8 := hR3.op (o' := 3) e24
      have sp8 : SP σ (z_up σ3 50 24 (σ3 50 24 - 1)) := hS3.trans (SP.up rfl)
      have b25 : z_up σ3 50 24 (σ3 50 24 - 1) 50 25 = f_b s3.2 := h8.2.2.2.1
      refine zT.step ct_X7_atom3_ok ?_
      refine zT.step ct_X7_atom3_ok ?_
      refine zT.step ct_X7_atom3_ok ?_
      refine And.intro ⟨by decide, _, rfl⟩ ?_
      refine zT.step ct_X7_atom3_ok ?_
      refine zT.step ct_X7_atom3_ok ?_
      refine zT.step ct_X7_atom3_ok ?_
      refine And.intro ⟨by decide, _, rfl⟩ ?_
      refine zT.step ct_X7_atom3_ok ?_
      refine zT.step ct_X7_atom3_ok ?_
      refine And.intro ⟨by decide, _, rfl⟩ ?_
      refine zT.step ct_X7_atom3_ok ?_
      refine And.intro (fun z => ?_) (fun z => ?_)
      · have z : z_up σ3 50 24 (σ3 50 24 - 1) 50 25 = 0 := z
        rw [b25] at z
        have z := fb0 z
        obtain ⟨y1, y2⟩ := hg3 z
        have kk := (tok_sg (f := f) (sz := sz) (p := s3.1) (q := (41, -21)) (by decide)).mp (by rw [← ps_tf z, y1]; exact y2)
        have nx2 := t_nextP (X := X) (d := d - 1) (r := r) (by omega) h8 z (by rw [sp8.bytes, ← hf]; exact Or.inr (Or.inr kk.1))
        rw [sp8.bytes, ← hf] at nx2
        refine zT.step ct_X7_atom3_ok ?_
        refine zT.step ct_X7_atom3_ok ?_
        refine And.intro ⟨by omega, by decide, _, rfl⟩ (zC.use nx2 (fun w L2 μ2 hw => ?_))
        obtain ⟨rfl, rfl, σ4, τ4, rfl, h9, h10⟩ := hw
        refine zT.step ct_X7_atom3_ok ?_
        refine zT.step ct_X7_atom3_ok ?_
        refine zT.step ct_X7_atom3_ok ?_
        rw [if_neg (by rw [z]; decide)]
        refine And.intro rfl ⟨σ4, τ4, v, rfl, rfl, sp8.trans h9, h10, fun _ st => ?_⟩
        exact h7 (by rw [← y1]; exact z) st
      · have z : ¬ z_up σ3 50 24 (σ3 50 24 - 1) 50 25 = 0 := z
        rw [b25] at z
        have z := fb1 z
        refine zT.step ct_X7_atom3_ok ?_
        refine zT.step ct_X7_atom3_ok ?_
        rw [if_pos z]
        exact And.intro rfl ⟨_, τ2, v, rfl, rfl, sp8, h8, fun hb => by have hb : s3.2 = false := hb; rw [z] at hb; cases hb⟩
    refine zT.step ct_X7_atom3_ok ?_
    refine zT.step ct_X7_atom3_ok ?_
    refine zT.step ct_X7_atom3_ok ?_
    refine zT.step ct_X7_atom3_ok ?_
    refine And.intro ⟨by omega, by decide, _, rfl⟩ (zF.use sg3 ?_)
    refine zT.step ct_X7_atom3_ok ?_
    refine And.intro (fun z => ?_) (fun z => ?_)
    · have z := of_decide_eq_false (fb0 z)
      refine zT.step ct_X7_atom3_ok ?_
      refine zT.step ct_X7_atom3_ok ?_
      refine And.intro ⟨by omega, by decide, _, rfl⟩ (zC.use (t_fail h6) (fun w L2 μ2 hw => ?_))
      obtain ⟨rfl, rfl, σ3, rfl, h9, h10⟩ := hw
      exact close σ3 (ps_f pp.1) (h5.trans h9) h10 rfl (by unfold ps_x; rw [if_neg z]; rfl) (fun q => by cases q)
    · have z := of_decide_eq_true (fb1 z)
      have hg : pp.1.2 = false := ps_ok (by rw [z]; decide)
      exact close σ2 pp.1 h5 h6 rfl (by unfold ps_x; rw [if_pos z, if_neg (by rw [hg]; decide)]) (fun _ => ⟨rfl, z⟩)
  have h2 := of_decide_eq_false (fb0 h2)
  have other : (k_tok f sz s.1 ≠ 2) → (k_tok f sz s.1 ≠ 1 ∨ ∀ j, j < 6 → ps_t f sz s ≠ -1 - nI j) → pr_one f sz (some D) s = (ps_f s, []) := by
    intro n2 n1
    unfold pr_one
    dsimp only
    rw [if_pos, if_neg h1, if_neg h2]
    rw [hT]
    rcases tok_lt (f := f) (sz := sz) (p := s.1) with z | z | ⟨j, hj, z⟩
    · exact z
    · exact absurd z n2
    · refine absurd z ?_
      rcases n1 with n1 | n1
      · intro z
        rw [← (z_wcd_j j hj).1] at z
        exact n1 ((tok_wd (by omega)).mp z).1
      · rw [← hT]; exact n1 j hj
  refine zT.step ct_X7_atom3_ok ?_
  refine zT.step ct_X7_atom3_ok ?_
  refine And.intro ⟨by decide, _, rfl⟩ ?_
  refine zT.step ct_X7_atom3_ok ?_
  refine And.intro (fun _ => ?_) (fun h => absurd h25 h)
  have kk : k_tok f sz s.1 < 2 ^ 31 := by rcases k_tok_v f sz s.1 with z | z | z | z | z <;> (rw [z.1]; decide)
  have word : k_tok f sz s.1 ≠ 2 → zT X d m_X7_atom3 (zV σ r t sz 3 (pr_one f sz (some D) s)) 0 0 123 [some (.ref 50), some (.int 0)] [] L0 (mm σ τ r) := by
    intro n2
    refine zT.step ct_X7_atom3_ok ?_
    refine zT.step ct_X7_atom3_ok ?_
    refine And.intro ⟨by decide, _, rfl⟩ ?_
    refine zT.step ct_X7_atom3_ok ?_
    refine And.intro (fun _ => ?_) (fun h => absurd h25 h)
    refine zT.step ct_X7_atom3_ok ?_
    refine zT.step ct_X7_atom3_ok ?_
    refine And.intro ⟨by decide, _, rfl⟩ ?_
    refine zT.step ct_X7_atom3_ok ?_
    refine zT.step ct_X7_atom3_ok ?_
    refine And.intro (fun h3 => ?_) (fun h3 => ?_)
    · have h3 : σ 50 21 = nI 1 := h3
      rw [hF.2.1] at h3
      have h3 := (nI_eq kk (by decide)).mp h3
      refine zT.step ct_X7_atom3_ok ?_
      refine zT.step ct_X7_atom3_ok ?_
      refine And.intro ⟨by omega, by decide, _, rfl⟩ (zC.use nm (fun w L2 μ2 hw => ?_))
      obtain ⟨rfl, ⟨j, hj, hj2, rfl, rfl⟩ | ⟨hj, rfl, σ', rfl, h4, h5⟩⟩ := hw
      · refine zT.step ct_X7_atom3_ok ?_
        refine zT.step ct_X7_atom3_ok ?_
        refine zT.step ct_X7_atom3_ok ?_
        refine And.intro ⟨by decide, _, rfl⟩ ?_
        refine zT.step ct_X7_atom3_ok ?_
        refine And.intro (fun _ => ?_) (fun h => absurd h25 h)
        refine zT.step ct_X7_atom3_ok ?_
        refine zT.step ct_X7_atom3_ok ?_
        refine And.intro ⟨by omega, by decide, _, rfl⟩ (zC.use (nx (Or.inl h3)) (fun w L2 μ2 hw => ?_))
        obtain ⟨rfl, rfl, σ', τ', rfl, h4, h5⟩ := hw
        refine zT.step ct_X7_atom3_ok ?_
        refine zT.step ct_X7_atom3_ok ?_
        refine zT.step ct_X7_atom3_ok ?_
        have e2 : pr_one f sz (some D) s = (ps_a f sz s, [-1 - nI j]) := by
          unfold pr_one
          rw [hj2, if_neg (z_wcd_j j hj).2.1]
        rw [e2]
        exact And.intro rfl ⟨σ', τ', _, rfl, rfl, h4, h5, fun _ st => ex_name hj st⟩
      · have h6 : σ' 50 25 = 1 := by rw [h5.2.2.2.1]; rfl
        refine zT.step ct_X7_atom3_ok ?_
        refine zT.step ct_X7_atom3_ok ?_
        refine zT.step ct_X7_atom3_ok ?_
        refine And.intro ⟨by decide, _, rfl⟩ ?_
        refine zT.step ct_X7_atom3_ok ?_
        refine And.intro (fun h => ?_) (fun _ => ?_)
        · have h : σ' 50 25 = 0 := h
          rw [h6] at h
          exact absurd h (by decide)
        exact dead (other n2 (Or.inr hj)) σ' 0 h4 h5
    · have h3 : ¬ σ 50 21 = nI 1 := h3
      rw [hF.2.1] at h3
      have h3 : k_tok f sz s.1 ≠ 1 := fun z => h3 (by rw [z])
      refine zT.step ct_X7_atom3_ok ?_
      refine zT.step ct_X7_atom3_ok ?_
      refine And.intro ⟨by omega, by decide, _, rfl⟩ (zC.use ff (fun w L2 μ2 hw => ?_))
      obtain ⟨rfl, rfl, σ', rfl, h4, h5⟩ := hw
      exact dead (other n2 (Or.inl h3)) σ' 0 h4 h5
  refine zT.step ct_X7_atom3_ok ?_
  refine zT.step ct_X7_atom3_ok ?_
  refine And.intro ⟨by decide, _, rfl⟩ ?_
  refine zT.step ct_X7_atom3_ok ?_
  refine zT.step ct_X7_atom3_ok ?_
  refine And.intro (fun h3 => ?_) (fun h3 => ?_)
  · have h3 : σ 50 21 = nI 2 := h3
    rw [hF.2.1] at h3
    have h3 := (nI_eq kk (by decide)).mp h3
    have hw := hF.2.2.2.1 h3
    have hpos := tok_nm.mpr h3
    refine zT.step ct_X7_atom3_ok ?_
    refine zT.step ct_X7_atom3_ok ?_
    refine And.intro ⟨by decide, _, rfl⟩ ?_
    refine zT.step ct_X7_atom3_ok ?_
    refine zT.step ct_X7_atom3_ok ?_
    refine zT.step ct_X7_atom3_ok ?_
    refine zT.step ct_X7_atom3_ok ?_
    refine And.intro ⟨by omega, by decide, _, rfl⟩ (zC.use (nx (Or.inr (Or.inl h3))) (fun w L2 μ2 hw => ?_))
    obtain ⟨rfl, rfl, σ', τ', rfl, h4, h5⟩ := hw
    refine zT.step ct_X7_atom3_ok ?_
    refine zT.step ct_X7_atom3_ok ?_
    refine zT.step ct_X7_atom3_ok ?_
    have e2 : pr_one f sz (some D) s = (ps_a f sz s, [lx_t f sz s.1]) := by
      unfold pr_one
      rw [hT, if_neg (fun q => by
        have := Int32.lt_iff_toInt_lt.mp q
        have h0 := Int32.le_iff_toInt_le.mp hpos
        have e1 : (-6 : Int32).toInt = -6 := by decide
        have e2 : (0 : Int32).toInt = 0 := by decide
        omega)]
    rw [e2]
    refine And.intro rfl ⟨σ', τ', lx_t f sz s.1, ?_, rfl, h4, h5, fun _ st => ex_num hpos st⟩
    show some (Value.int (τ 50 23).toInt32) = _
    rw [hw]
  · have h3 : ¬ σ 50 21 = nI 2 := h3
    rw [hF.2.1] at h3
    exact word (fun z => h3 (by rw [z]))
theorem t_term3 {X : zXs} : PFn X m_X7_term3 3 23 (fun f sz => pr_4 f sz (pr_D f sz 2)) := by
  intro d σ τ r t sz s hd hs2 hR
  have hsz := hR.1.2.2.1
  obtain ⟨f, hf⟩ : ∃ f, f = tB σ t := ⟨_, rfl⟩
  obtain ⟨g, hg⟩ : ∃ g : PT, g = pr_one f sz (pr_D f sz 2) := ⟨_, rfl⟩
  have hP : PK sz g := by rw [hg]; exact PK.one (PK.D 2)
  have eG : (fun f sz => pr_4 f sz (pr_D f sz 2)) (tB σ t) sz s = pr_lv f sz 160 4 g s := by rw [hg, ← hf]; rfl
  rw [eG]
  have call : ∀ (σ1 : zSg) (τ1 : Nat → Nat → Int64) (s1 : PS), SP σ σ1 → s1.2 = false → RP σ1 τ1 t sz s1 3 → zC X (d - 1) 0 0 m_X7_atom3 [.ref 50] L0 (mm σ1 τ1 r) (zV σ r t sz 3 (g s1)) := by
    intro σ1 τ1 s1 hS h2 h3
    refine zC.wk (t_atom3 (X := X) (d - 1) σ1 τ1 r t sz s1 (by omega) h2 h3) (fun w L2 μ2 hw => ?_)
    obtain ⟨hL, σ', τ', v, hv, hμ, hSP, hRP, hx⟩ := hw
    rw [hS.bytes, ← hf] at hRP hx
    dsimp only at hRP hx
    rw [← hg] at hRP hx
    exact ⟨hL, σ', τ', v, hv, hμ, hS.trans hSP, hRP, fun h st => by rw [← ev_sp hS]; exact hx h st⟩
  clear hg eG
  have lp : ∀ (m : Nat) (σ1 : zSg) (τ1 : Nat → Nat → Int64) (s1 : PS) (v : Int32), 160 ≤ m + s1.1 → SP σ σ1 → RP σ1 τ1 t sz s1 3 → (∀ (σ2 : zSg) (τ2 : Nat → Nat → Int64) (v2 : Int32), SP σ σ2 → RP σ2 τ2 t sz (pr_lp f sz 4 g m s1).1 3 → ((pr_lp f sz 4 g m s1).1.2 = false → ∀ st, exL (ev σ) (pr_lp f sz 4 g m s1).2 (v :: st) = v2 :: st) → zV σ r t sz 3 (pr_lv f sz 160 4 g s) (some (.int v2)) L0 (mm σ2 τ2 r)) → zT X d m_X7_term3 (zV σ r t sz 3 (pr_lv f sz 160 4 g s)) 0 0 5 [some (.ref 50), some (.int v)] [] L0 (mm σ1 τ1 r) := by
    intro m
    induction m with
    | zero =>
      intro σ1 τ1 s1 v hm hS h3 K
      have sg : zF X (d - 1) m_X7_isSign [.ref 50, .int 42] L0 (mm σ1 τ1 r) (some (.int (f_b (decide (ps_t f sz s1 = -17))))) (mm σ1 τ1 r) := by have := t_isSign (X := X) (d := d - 1) (r := r) (q := (42, -17)) (by decide) h3; rw [hS.bytes, ← hf] at this; exact this
      refine zT.step ct_X7_term3_ok ?_
      refine zT.step ct_X7_term3_ok ?_
      refine zT.step ct_X7_term3_ok ?_
      refine And.intro ⟨by omega, by decide, _, rfl⟩ (zF.use sg ?_)
      refine zT.step ct_X7_term3_ok ?_
      refine And.intro (fun h => ?_) (fun h => ?_)
      · refine zT.step ct_X7_term3_ok ?_
        refine zT.step ct_X7_term3_ok ?_
        exact K σ1 τ1 v hS h3 (fun _ st => rfl)
      · have h := of_decide_eq_true (fb1 h)
        have := lp_end (f := f) h3.2.1 (by rw [h]; decide) (by rw [h]; decide)
        omega
    | succ m ih =>
      intro σ1 τ1 s1 v hm hS h3 K
      have sg : zF X (d - 1) m_X7_isSign [.ref 50, .int 42] L0 (mm σ1 τ1 r) (some (.int (f_b (decide (ps_t f sz s1 = -17))))) (mm σ1 τ1 r) := by have := t_isSign (X := X) (d := d - 1) (r := r) (q := (42, -17)) (by decide) h3; rw [hS.bytes, ← hf] at this; exact this
      refine zT.step ct_X7_term3_ok ?_
      refine zT.step ct_X7_term3_ok ?_
      refine zT.step ct_X7_term3_ok ?_
      refine And.intro ⟨by omega, by decide, _, rfl⟩ (zF.use sg ?_)
      refine zT.step ct_X7_term3_ok ?_
      refine And.intro (fun h => ?_) (fun h => ?_)
      · have h := of_decide_eq_false (fb0 h)
        have e := lp_no (f := f) (sz := sz) (g := g) (l := 4) (m + 1) s1 (fun z => h ((lev_4 _).mp z))
        rw [e] at K
        refine zT.step ct_X7_term3_ok ?_
        refine zT.step ct_X7_term3_ok ?_
        exact K σ1 τ1 v hS h3 (fun _ st => rfl)
      · have h := of_decide_eq_true (fb1 h)
        have h4 : s1.2 = false := ps_ok (by rw [h]; decide)
        have e := lp_yes (f := f) (sz := sz) (g := g) (l := 4) m s1 ((lev_4 _).mpr h)
        have ha := ps_a_le h3.2.1 (show ps_t f sz s1 ≠ -31 by rw [h]; decide) (by rw [h]; decide)
        have hgp := hP (ps_a f sz s1) ha.2.1
        have nx := t_nextP (X := X) (d := d - 1) (r := r) (by omega) h3 h4 (by rw [hS.bytes, ← hf]; exact Or.inr (Or.inr (tok_sg (q := (42, -17)) (by decide) |>.mp (by rw [← ps_tf h4]; exact h)).1))
        rw [hS.bytes, ← hf] at nx
        rw [e] at K
        refine zT.step ct_X7_term3_ok ?_
        refine zT.step ct_X7_term3_ok ?_
        refine And.intro ⟨by omega, by decide, _, rfl⟩ (zC.use nx (fun w L2 μ2 hw => ?_))
        obtain ⟨rfl, rfl, σ2, τ2, rfl, h5, h6⟩ := hw
        refine zT.step ct_X7_term3_ok ?_
        refine zT.step ct_X7_term3_ok ?_
        refine zT.step ct_X7_term3_ok ?_
        refine And.intro ⟨by omega, by decide, _, rfl⟩ (zC.use (call σ2 τ2 (ps_a f sz s1) (hS.trans h5) h4 h6) (fun w L2 μ2 hw => ?_))
        obtain ⟨rfl, σ3, τ3, v3, rfl, rfl, h7, h8, h9⟩ := hw
        refine zT.step ct_X7_term3_ok ?_
        refine zT.step ct_X7_term3_ok ?_
        refine zT.step ct_X7_term3_ok ?_
        refine ih σ3 τ3 (g (ps_a f sz s1)).1 (v * v3) (by omega) h7 h8 (fun σ4 τ4 v4 k1 k2 k3 => K σ4 τ4 v4 k1 k2 (fun hb st => ?_))
        have h10 := lp_good (by decide) hb
        show exL (ev σ) ((g (ps_a f sz s1)).2 ++ ps_t f sz s1 :: (pr_lp f sz 4 g m (g (ps_a f sz s1)).1).2) (v :: st) = _
        rw [exL_app, h9 h10, h]
        exact k3 hb st
  refine zC.of mk_X7_term3 rfl ?_
  refine zT.step ct_X7_term3_ok ?_
  refine zT.step ct_X7_term3_ok ?_
  refine And.intro ⟨by omega, by decide, _, rfl⟩ (zC.use (call σ τ s SP.rf hs2 hR) (fun w L2 μ2 hw => ?_))
  obtain ⟨rfl, σ1, τ1, v, rfl, rfl, h1, h2, h3⟩ := hw
  refine zT.step ct_X7_term3_ok ?_
  refine lp 160 σ1 τ1 (g s).1 v (by omega) h1 h2 (fun σ2 τ2 v2 k1 k2 k3 => ⟨rfl, σ2, τ2, v2, rfl, rfl, k1, k2, fun hb st => ?_⟩)
  have h10 := lp_good (by decide) hb
  show exL (ev σ) ((g s).2 ++ (pr_lp f sz 4 g 160 (g s).1).2) st = _
  rw [exL_app, h3 h10]
  exact k3 hb st
theorem t_added3 {X : zXs} : PFn X m_X7_added3 3 24 (fun f sz => pr_3 f sz (pr_D f sz 2)) := by
  intro d σ τ r t sz s hd hs2 hR
  have hsz := hR.1.2.2.1
  obtain ⟨f, hf⟩ : ∃ f, f = tB σ t := ⟨_, rfl⟩
  obtain ⟨g, hg⟩ : ∃ g : PT, g = pr_4 f sz (pr_D f sz 2) := ⟨_, rfl⟩
  have hP : PK sz g := by rw [hg]; exact PK.L (PK.D 2) 4
  have eG : (fun f sz => pr_3 f sz (pr_D f sz 2)) (tB σ t) sz s = pr_lv f sz 160 3 g s := by rw [hg, ← hf]; rfl
  rw [eG]
  have call : ∀ (σ1 : zSg) (τ1 : Nat → Nat → Int64) (s1 : PS), SP σ σ1 → s1.2 = false → RP σ1 τ1 t sz s1 3 → zC X (d - 1) 0 0 m_X7_term3 [.ref 50] L0 (mm σ1 τ1 r) (zV σ r t sz 3 (g s1)) := by
    intro σ1 τ1 s1 hS h2 h3
    refine zC.wk (t_term3 (X := X) (d - 1) σ1 τ1 r t sz s1 (by omega) h2 h3) (fun w L2 μ2 hw => ?_)
    obtain ⟨hL, σ', τ', v, hv, hμ, hSP, hRP, hx⟩ := hw
    rw [hS.bytes, ← hf] at hRP hx
    dsimp only at hRP hx
    rw [← hg] at hRP hx
    exact ⟨hL, σ', τ', v, hv, hμ, hS.trans hSP, hRP, fun h st => by rw [← ev_sp hS]; exact hx h st⟩
  clear hg eG
  have lp : ∀ (m : Nat) (σ1 : zSg) (τ1 : Nat → Nat → Int64) (s1 : PS) (v : Int32), 160 ≤ m + s1.1 → SP σ σ1 → RP σ1 τ1 t sz s1 3 → (∀ (σ2 : zSg) (τ2 : Nat → Nat → Int64) (v2 : Int32), SP σ σ2 → RP σ2 τ2 t sz (pr_lp f sz 3 g m s1).1 3 → ((pr_lp f sz 3 g m s1).1.2 = false → ∀ st, exL (ev σ) (pr_lp f sz 3 g m s1).2 (v :: st) = v2 :: st) → zV σ r t sz 3 (pr_lv f sz 160 3 g s) (some (.int v2)) L0 (mm σ2 τ2 r)) → zT X d m_X7_added3 (zV σ r t sz 3 (pr_lv f sz 160 3 g s)) 0 0 5 [some (.ref 50), some (.int v), none, none] [] L0 (mm σ1 τ1 r) := by
    intro m
    induction m with
    | zero =>
      intro σ1 τ1 s1 v hm hS h3 K
      have sg : ∀ q ∈ z_sgl, zF X (d - 1) m_X7_isSign [.ref 50, .int q.1] L0 (mm σ1 τ1 r) (some (.int (f_b (decide (ps_t f sz s1 = q.2))))) (mm σ1 τ1 r) := fun q hq => by have := t_isSign (X := X) (d := d - 1) (r := r) hq h3; rw [hS.bytes, ← hf] at this; exact this
      have big : ps_t f sz s1 ≠ -31 → ps_t f sz s1 ≠ -30 → False := fun q1 q2 => by
        have := lp_end (f := f) h3.2.1 q1 q2
        omega
      refine zT.step ct_X7_added3_ok ?_
      refine zT.step ct_X7_added3_ok ?_
      refine zT.step ct_X7_added3_ok ?_
      refine And.intro ⟨by omega, by decide, _, rfl⟩ (zF.use (sg (43, -15) (by decide)) ?_)
      refine zT.step ct_X7_added3_ok ?_
      refine And.intro (fun _ => ?_) (fun h => ?_)
      case refine_2 =>
        have h := of_decide_eq_true (fb1 h)
        exact (big (by rw [h]; decide) (by rw [h]; decide)).elim
      refine zT.step ct_X7_added3_ok ?_
      refine zT.step ct_X7_added3_ok ?_
      refine zT.step ct_X7_added3_ok ?_
      refine And.intro ⟨by omega, by decide, _, rfl⟩ (zF.use (sg (45, -16) (by decide)) ?_)
      refine zT.step ct_X7_added3_ok ?_
      refine And.intro (fun h => ?_) (fun h => ?_)
      · refine zT.step ct_X7_added3_ok ?_
        refine zT.step ct_X7_added3_ok ?_
        exact K σ1 τ1 v hS h3 (fun _ st => rfl)
      · have h := of_decide_eq_true (fb1 h)
        exact (big (by rw [h]; decide) (by rw [h]; decide)).elim
    | succ m ih =>
      intro σ1 τ1 s1 v hm hS h3 K
      have sg : ∀ q ∈ z_sgl, zF X (d - 1) m_X7_isSign [.ref 50, .int q.1] L0 (mm σ1 τ1 r) (some (.int (f_b (decide (ps_t f sz s1 = q.2))))) (mm σ1 τ1 r) := fun q hq => by have := t_isSign (X := X) (d := d - 1) (r := r) hq h3; rw [hS.bytes, ← hf] at this; exact this
      have go : (ps_t f sz s1 = -15 ∨ ps_t f sz s1 = -16) → zT X d m_X7_added3 (zV σ r t sz 3 (pr_lv f sz 160 3 g s)) 0 0 23 [some (.ref 50), some (.int v), none, none] [] L0 (mm σ1 τ1 r) := by
        intro h
        have n1 : ps_t f sz s1 ≠ -31 := by rcases h with h | h <;> (rw [h]; decide)
        have n2 : ps_t f sz s1 ≠ -30 := by rcases h with h | h <;> (rw [h]; decide)
        have h4 : s1.2 = false := ps_ok n1
        have e := lp_yes (f := f) (sz := sz) (g := g) (l := 3) m s1 ((lev_3 _).mpr h)
        have ha := ps_a_le h3.2.1 n1 n2
        have hgp := hP (ps_a f sz s1) ha.2.1
        have hF := h3.2.2.2.2.1 h4
        rw [hS.bytes, ← hf] at hF
        have k3 : k_tok f sz s1.1 = 3 := by
          rw [ps_tf h4] at h
          rcases h with h | h
          · exact ((tok_sg (q := (43, -15)) (by decide)).mp h).1
          · exact ((tok_sg (q := (45, -16)) (by decide)).mp h).1
        have hw := hF.2.2.2.2 k3
        have nx := t_nextP (X := X) (d := d - 1) (r := r) (by omega) h3 h4 (by rw [hS.bytes, ← hf]; exact Or.inr (Or.inr k3))
        rw [hS.bytes, ← hf] at nx
        rw [e] at K
        have back : ∀ more : Int32, (∀ a b : Int32, f_jo (ps_t f sz s1) a b = if more = 0 then a - b else a + b) → zT X d m_X7_added3 (zV σ r t sz 3 (pr_lv f sz 160 3 g s)) 0 0 39 [some (.ref 50), some (.int v), none, none] [.int more] L0 (mm σ1 τ1 r) := by
          intro more hmo
          refine zT.step ct_X7_added3_ok ?_
          refine zT.step ct_X7_added3_ok ?_
          refine zT.step ct_X7_added3_ok ?_
          refine And.intro ⟨by omega, by decide, _, rfl⟩ (zC.use nx (fun w L2 μ2 hw => ?_))
          obtain ⟨rfl, rfl, σ2, τ2, rfl, h5, h6⟩ := hw
          refine zT.step ct_X7_added3_ok ?_
          refine zT.step ct_X7_added3_ok ?_
          refine And.intro ⟨by omega, by decide, _, rfl⟩ (zC.use (call σ2 τ2 (ps_a f sz s1) (hS.trans h5) h4 h6) (fun w L2 μ2 hw => ?_))
          obtain ⟨rfl, σ3, τ3, v3, rfl, rfl, h7, h8, h9⟩ := hw
          have fin : ∀ x : Int32, x = f_jo (ps_t f sz s1) v v3 → zT X d m_X7_added3 (zV σ r t sz 3 (pr_lv f sz 160 3 g s)) 0 0 62 [some (.ref 50), some (.int v), some (.int more), some (.int v3)] [.int x] L0 (mm σ3 τ3 r) := by
            intro x hx
            refine zT.step ct_X7_added3_ok ?_
            refine zT.step ct_X7_added3_ok ?_
            refine zT.drop 2 (zT.drop 3 ?_)
            refine ih σ3 τ3 (g (ps_a f sz s1)).1 x (by omega) h7 h8 (fun σ4 τ4 v4 k1 k2 k3 => K σ4 τ4 v4 k1 k2 (fun hb st => ?_))
            have h10 := lp_good (by decide) hb
            show exL (ev σ) ((g (ps_a f sz s1)).2 ++ ps_t f sz s1 :: (pr_lp f sz 3 g m (g (ps_a f sz s1)).1).2) (v :: st) = _
            rw [exL_app, h9 h10]
            have e1 : ex1 (ev σ) (ps_t f sz s1) (v3 :: v :: st) = x :: st := by
              rw [hx]
              rcases h with h | h <;> (rw [h]; rfl)
            show exL (ev σ) _ (ex1 (ev σ) (ps_t f sz s1) (v3 :: v :: st)) = _
            rw [e1]
            exact k3 hb st
          refine zT.step ct_X7_added3_ok ?_
          refine zT.step ct_X7_added3_ok ?_
          refine zT.step ct_X7_added3_ok ?_
          refine And.intro (fun q => ?_) (fun q => ?_)
          · have q : more = 0 := q
            refine zT.step ct_X7_added3_ok ?_
            refine zT.step ct_X7_added3_ok ?_
            refine zT.step ct_X7_added3_ok ?_
            exact fin _ (by rw [hmo, if_pos q])
          · have q : ¬ more = 0 := q
            refine zT.step ct_X7_added3_ok ?_
            refine zT.step ct_X7_added3_ok ?_
            refine zT.step ct_X7_added3_ok ?_
            refine zT.step ct_X7_added3_ok ?_
            exact fin _ (by rw [hmo, if_neg q])
        refine zT.step ct_X7_added3_ok ?_
        refine zT.step ct_X7_added3_ok ?_
        refine And.intro ⟨by decide, _, rfl⟩ ?_
        refine zT.step ct_X7_added3_ok ?_
        refine zT.step ct_X7_added3_ok ?_
        refine zT.step ct_X7_added3_ok ?_
        refine And.intro (fun q => ?_) (fun q => ?_)
        · have q : τ1 50 23 = (43 : Int32).toInt64 := (lg_cmp_eq _ _).mp q
          rw [hw] at q
          have q := (tok_sg (q := (43, -15)) (by decide)).mpr ⟨k3, i64_inj q⟩
          refine zT.step ct_X7_added3_ok ?_
          refine zT.step ct_X7_added3_ok ?_
          refine back 1 (fun a b => ?_)
          rw [ps_tf h4, q]
          rfl
        · have q : ¬ τ1 50 23 = (43 : Int32).toInt64 := fun z => q ((lg_cmp_eq _ _).mpr z)
          rw [hw] at q
          have q : ps_t f sz s1 = -16 := h.elim (fun z => absurd (by rw [ps_tf h4] at z; rw [((tok_sg (q := (43, -15)) (by decide)).mp z).2]) q) id
          refine zT.step ct_X7_added3_ok ?_
          refine back 0 (fun a b => ?_)
          rw [q]
          rfl
      refine zT.step ct_X7_added3_ok ?_
      refine zT.step ct_X7_added3_ok ?_
      refine zT.step ct_X7_added3_ok ?_
      refine And.intro ⟨by omega, by decide, _, rfl⟩ (zF.use (sg (43, -15) (by decide)) ?_)
      refine zT.step ct_X7_added3_ok ?_
      refine And.intro (fun h1 => ?_) (fun h => go (Or.inl (of_decide_eq_true (fb1 h))))
      have h1 := of_decide_eq_false (fb0 h1)
      refine zT.step ct_X7_added3_ok ?_
      refine zT.step ct_X7_added3_ok ?_
      refine zT.step ct_X7_added3_ok ?_
      refine And.intro ⟨by omega, by decide, _, rfl⟩ (zF.use (sg (45, -16) (by decide)) ?_)
      refine zT.step ct_X7_added3_ok ?_
      refine And.intro (fun h => ?_) (fun h => go (Or.inr (of_decide_eq_true (fb1 h))))
      have h := of_decide_eq_false (fb0 h)
      have e := lp_no (f := f) (sz := sz) (g := g) (l := 3) (m + 1) s1 (fun z => ((lev_3 _).mp z).elim h1 h)
      rw [e] at K
      refine zT.step ct_X7_added3_ok ?_
      refine zT.step ct_X7_added3_ok ?_
      exact K σ1 τ1 v hS h3 (fun _ st => rfl)
  refine zC.of mk_X7_added3 rfl ?_
  refine zT.step ct_X7_added3_ok ?_
  refine zT.step ct_X7_added3_ok ?_
  refine And.intro ⟨by omega, by decide, _, rfl⟩ (zC.use (call σ τ s SP.rf hs2 hR) (fun w L2 μ2 hw => ?_))
  obtain ⟨rfl, σ1, τ1, v, rfl, rfl, h1, h2, h3⟩ := hw
  refine zT.step ct_X7_added3_ok ?_
  refine lp 160 σ1 τ1 (g s).1 v (by omega) h1 h2 (fun σ2 τ2 v2 k1 k2 k3 => ⟨rfl, σ2, τ2, v2, rfl, rfl, k1, k2, fun hb st => ?_⟩)
  have h10 := lp_good (by decide) hb
  show exL (ev σ) ((g s).2 ++ (pr_lp f sz 3 g 160 (g s).1).2) st = _
  rw [exL_app, h3 h10]
  exact k3 hb st
theorem t_not3 {X : zXs} : PFn X m_X7_not3 3 25 (fun f sz => pr_2 f sz (pr_D f sz 2)) := by
  intro d σ τ r t sz s hd hs2 hR
  have hsz := hR.1.2.2.1
  obtain ⟨f, hf⟩ : ∃ f, f = tB σ t := ⟨_, rfl⟩
  have eG : (fun f sz => pr_2 f sz (pr_D f sz 2)) (tB σ t) sz s = pr_2 f sz (pr_D f sz 2) s := by rw [← hf]
  rw [eG]
  obtain ⟨g, hg⟩ : ∃ g : PT, g = pr_3 f sz (pr_D f sz 2) := ⟨_, rfl⟩
  have hP : PK sz g := by rw [hg]; exact PK.L (PK.D 2) 3
  have call : ∀ (σ1 : zSg) (τ1 : Nat → Nat → Int64) (s1 : PS), SP σ σ1 → s1.2 = false → RP σ1 τ1 t sz s1 3 → zC X (d - 1) 0 0 m_X7_added3 [.ref 50] L0 (mm σ1 τ1 r) (zV σ r t sz 3 (g s1)) := by
    intro σ1 τ1 s1 hS h2 h3
    refine zC.wk (t_added3 (X := X) (d - 1) σ1 τ1 r t sz s1 (by omega) h2 h3) (fun w L2 μ2 hw => ?_)
    obtain ⟨hL, σ', τ', v, hv, hμ, hSP, hRP, hx⟩ := hw
    rw [hS.bytes, ← hf] at hRP hx
    dsimp only at hRP hx
    rw [← hg] at hRP hx
    exact ⟨hL, σ', τ', v, hv, hμ, hS.trans hSP, hRP, fun h st => by rw [← ev_sp hS]; exact hx h st⟩
  have sw : zF X (d - 1) m_X7_isWord [.ref 50, .int 110, .int 111, .int 116, .int 0, .int 0, .int 0, .int 0, .int 0] L0 (mm σ τ r) (some (.int (f_b (decide (ps_t f sz s = -18))))) (mm σ τ r) := by have := t_isWord (X := X) (d := d - 1) (r := r) (i := 11) (by decide) (by omega) hR; rw [← hf] at this; exact this
  refine zC.of mk_X7_not3 rfl ?_
  refine zT.step ct_X7_not3_ok ?_
  refine zT.step ct_X7_not3_ok ?_
  refine zT.step ct_X7_not3_ok ?_
  refine zT.step ct_X7_not3_ok ?_
  refine zT.step ct_X7_not3_ok ?_
  refine zT.step ct_X7_not3_ok ?_
  refine zT.step ct_X7_not3_ok ?_
  refine zT.step ct_X7_not3_ok ?_
  refine zT.step ct_X7_not3_ok ?_
  refine zT.step ct_X7_not3_ok ?_
  refine And.intro ⟨by omega, by decide, _, rfl⟩ (zF.use sw ?_)
  refine zT.step ct_X7_not3_ok ?_
  refine And.intro (fun h => ?_) (fun h => ?_)
  case refine_2 =>
    have h := of_decide_eq_true (fb1 h)
    have e2 : pr_2 f sz (pr_D f sz 2) s = pr_beh f sz (pr_D f sz 2) (-18) 2 s := by unfold pr_2; rw [if_pos h]
    rw [e2]
    have h18 : lx_t (tB σ t) sz s.1 = z_wcd.getD 11 0 := by rw [← ps_tf hs2, ← hf]; exact h
    have op := t_opens (X := X) (d := d - 1) (r := r) (by omega) (by decide) hR hs2 (Or.inl ((tok_wd (by decide)).mp h18).1)
    rw [← hf] at op
    have e3 : pr_beh f sz (pr_D f sz 2) (-18) 2 s = ((pr_2 f sz (pr_D f sz 1) (ps_a f sz s)).1, (pr_2 f sz (pr_D f sz 1) (ps_a f sz s)).2 ++ [-18]) := rfl
    rw [e3]
    refine zT.step ct_X7_not3_ok ?_
    refine zT.step ct_X7_not3_ok ?_
    refine And.intro ⟨by omega, by decide, _, rfl⟩ (zC.use op (fun w L2 μ2 hw => ?_))
    obtain ⟨rfl, rfl, σ1, τ1, rfl, h3, h4⟩ := hw
    refine zT.step ct_X7_not3_ok ?_
    refine And.intro (fun z => absurd z (by decide)) (fun _ => ?_)
    have nn := t_not4 (X := X) (d - 1) σ1 τ1 r t sz (ps_a f sz s) (by omega) hs2 h4
    rw [h3.bytes, ← hf] at nn
    dsimp only at nn
    generalize pr_2 f sz (pr_D f sz 1) (ps_a f sz s) = pp at nn ⊢
    refine zT.step ct_X7_not3_ok ?_
    refine zT.step ct_X7_not3_ok ?_
    refine And.intro ⟨by omega, by decide, _, rfl⟩ (zC.use nn (fun w L2 μ2 hw => ?_))
    obtain ⟨rfl, σ2, τ2, v, rfl, rfl, h5, h6, h7⟩ := hw
    have h8 := h6.op (o' := 3) (show σ2 50 24 - 1 = nI 3 by rw [h6.2.2.1]; rfl)
    have fin : ∀ x : Int32, x = f_al (-18) v → zT X d m_X7_not3 (zV σ r t sz 3 (pp.1, pp.2 ++ [-18])) 0 0 51 [some (.ref 50), some (.int v), none, none] [.int x] L0 (mm (z_up σ2 50 24 (σ2 50 24 - 1)) τ2 r) := by
      intro x hx
      refine zT.step ct_X7_not3_ok ?_
      refine And.intro rfl ⟨_, τ2, x, rfl, rfl, (h3.trans h5).trans (SP.up rfl), h8, fun hb st => ?_⟩
      have hb : pp.1.2 = false := hb
      have e9 := h7 hb st
      rw [ev_sp h3] at e9
      show exL (ev σ) (pp.2 ++ [-18]) st = _
      rw [exL_app, e9, hx]
      rfl
    refine zT.step ct_X7_not3_ok ?_
    refine zT.step ct_X7_not3_ok ?_
    refine zT.step ct_X7_not3_ok ?_
    refine zT.step ct_X7_not3_ok ?_
    refine And.intro ⟨by decide, _, rfl⟩ ?_
    refine zT.step ct_X7_not3_ok ?_
    refine zT.step ct_X7_not3_ok ?_
    refine zT.step ct_X7_not3_ok ?_
    refine And.intro ⟨by decide, _, rfl⟩ ?_
    refine zT.step ct_X7_not3_ok ?_
    refine zT.step ct_X7_not3_ok ?_
    refine And.intro (fun z => ?_) (fun z => ?_)
    · have z : v = 0 := z
      refine zT.step ct_X7_not3_ok ?_
      refine zT.step ct_X7_not3_ok ?_
      exact fin 1 (by rw [z]; rfl)
    · have z : ¬ v = 0 := z
      refine zT.step ct_X7_not3_ok ?_
      exact fin 0 (by simp [f_al, z])
  have h := of_decide_eq_false (fb0 h)
  have e2 : pr_2 f sz (pr_D f sz 2) s = pr_lv f sz 1 2 g s := by unfold pr_2; rw [if_neg h, hg]
  rw [e2]
  refine zT.step ct_X7_not3_ok ?_
  refine zT.step ct_X7_not3_ok ?_
  refine And.intro ⟨by omega, by decide, _, rfl⟩ (zC.use (call σ τ s SP.rf hs2 hR) (fun w L2 μ2 hw => ?_))
  obtain ⟨rfl, σ1, τ1, v, rfl, rfl, h1, h2, h3⟩ := hw
  have hgs := hP s hR.2.1
  obtain ⟨s1, hs1⟩ : ∃ s1, s1 = (g s).1 := ⟨_, rfl⟩
  have ev0 : pr_lv f sz 1 2 g s = ((pr_lp f sz 2 g 1 s1).1, (g s).2 ++ (pr_lp f sz 2 g 1 s1).2) := by rw [hs1]; rfl
  rw [ev0]
  rw [← hs1] at h2 h3
  generalize (g s).2 = c1 at h3 ⊢
  have sg : ∀ q ∈ z_sgl, zF X (d - 1) m_X7_isSign [.ref 50, .int q.1] L0 (mm σ1 τ1 r) (some (.int (f_b (decide (ps_t f sz s1 = q.2))))) (mm σ1 τ1 r) := fun q hq => by have := t_isSign (X := X) (d := d - 1) (r := r) hq h2; rw [h1.bytes, ← hf] at this; exact this
  have go : (ps_t f sz s1 = -13 ∨ ps_t f sz s1 = -14) → zT X d m_X7_not3 (zV σ r t sz 3 ((pr_lp f sz 2 g 1 s1).1, c1 ++ (pr_lp f sz 2 g 1 s1).2)) 0 0 77 [some (.ref 50), some (.int v), none, none] [] L0 (mm σ1 τ1 r) := by
    intro h
    have n1 : ps_t f sz s1 ≠ -31 := by rcases h with h | h <;> (rw [h]; decide)
    have n2 : ps_t f sz s1 ≠ -30 := by rcases h with h | h <;> (rw [h]; decide)
    have h4 : s1.2 = false := ps_ok n1
    have e := lp_yes (f := f) (sz := sz) (g := g) (l := 2) 0 s1 ((lev_2 _).mpr h)
    have hF := h2.2.2.2.2.1 h4
    rw [h1.bytes, ← hf] at hF
    have k3 : k_tok f sz s1.1 = 3 := by
      rw [ps_tf h4] at h
      rcases h with h | h
      · exact ((tok_sg (q := (60, -13)) (by decide)).mp h).1
      · exact ((tok_sg (q := (61, -14)) (by decide)).mp h).1
    have hw := hF.2.2.2.2 k3
    have nx := t_nextP (X := X) (d := d - 1) (r := r) (by omega) h2 h4 (by rw [h1.bytes, ← hf]; exact Or.inr (Or.inr k3))
    rw [h1.bytes, ← hf] at nx
    rw [e]
    have back : ∀ more : Int32, (∀ a b : Int32, f_jo (ps_t f sz s1) a b = if more = 0 then (if a = b then 1 else 0) else (if a < b then 1 else 0)) → zT X d m_X7_not3 (zV σ r t sz 3 ((pr_lp f sz 2 g 0 (g (ps_a f sz s1)).1).1, c1 ++ ((g (ps_a f sz s1)).2 ++ ps_t f sz s1 :: (pr_lp f sz 2 g 0 (g (ps_a f sz s1)).1).2))) 0 0 93 [some (.ref 50), some (.int v), none, none] [.int more] L0 (mm σ1 τ1 r) := by
      intro more hmo
      refine zT.step ct_X7_not3_ok ?_
      refine zT.step ct_X7_not3_ok ?_
      refine zT.step ct_X7_not3_ok ?_
      refine And.intro ⟨by omega, by decide, _, rfl⟩ (zC.use nx (fun w L2 μ2 hw => ?_))
      obtain ⟨rfl, rfl, σ2, τ2, rfl, h5, h6⟩ := hw
      refine zT.step ct_X7_not3_ok ?_
      refine zT.step ct_X7_not3_ok ?_
      refine And.intro ⟨by omega, by decide, _, rfl⟩ (zC.use (call σ2 τ2 (ps_a f sz s1) (h1.trans h5) h4 h6) (fun w L2 μ2 hw => ?_))
      obtain ⟨rfl, σ3, τ3, v3, rfl, rfl, h7, h8, h9⟩ := hw
      have fin : ∀ x : Int32, x = f_jo (ps_t f sz s1) v v3 → zT X d m_X7_not3 (zV σ r t sz 3 ((pr_lp f sz 2 g 0 (g (ps_a f sz s1)).1).1, c1 ++ ((g (ps_a f sz s1)).2 ++ ps_t f sz s1 :: (pr_lp f sz 2 g 0 (g (ps_a f sz s1)).1).2))) 0 0 125 [some (.ref 50), some (.int v), some (.int more), some (.int v3)] [.int x] L0 (mm σ3 τ3 r) := by
        intro x hx
        refine zT.step ct_X7_not3_ok ?_
        refine And.intro rfl ⟨σ3, τ3, x, rfl, rfl, h7, h8, fun hb st => ?_⟩
        have hb : (g (ps_a f sz s1)).1.2 = false := hb
        show exL (ev σ) (c1 ++ ((g (ps_a f sz s1)).2 ++ [ps_t f sz s1])) st = _
        rw [exL_app, h3 h4, exL_app, h9 hb]
        show ex1 (ev σ) (ps_t f sz s1) (v3 :: v :: st) = x :: st
        rw [hx]
        rcases h with h | h <;> (rw [h]; rfl)
      refine zT.step ct_X7_not3_ok ?_
      refine zT.step ct_X7_not3_ok ?_
      refine zT.step ct_X7_not3_ok ?_
      refine And.intro (fun q => ?_) (fun q => ?_)
      · have q : more = 0 := q
        refine zT.step ct_X7_not3_ok ?_
        refine zT.step ct_X7_not3_ok ?_
        refine zT.step ct_X7_not3_ok ?_
        refine And.intro (fun z => ?_) (fun z => ?_)
        · have z : v = v3 := z
          refine zT.step ct_X7_not3_ok ?_
          refine zT.step ct_X7_not3_ok ?_
          exact fin 1 (by rw [hmo, if_pos q, if_pos z])
        · have z : ¬ v = v3 := z
          refine zT.step ct_X7_not3_ok ?_
          exact fin 0 (by rw [hmo, if_pos q, if_neg z])
      · have q : ¬ more = 0 := q
        refine zT.step ct_X7_not3_ok ?_
        refine zT.step ct_X7_not3_ok ?_
        refine zT.step ct_X7_not3_ok ?_
        refine And.intro (fun z => ?_) (fun z => ?_)
        · have z : v3 ≤ v := z
          refine zT.step ct_X7_not3_ok ?_
          exact fin 0 (by rw [hmo, if_neg q, if_neg (Int32.not_lt.mpr z)])
        · have z : ¬ v3 ≤ v := z
          refine zT.step ct_X7_not3_ok ?_
          refine zT.step ct_X7_not3_ok ?_
          refine zT.step ct_X7_not3_ok ?_
          exact fin 1 (by rw [hmo, if_neg q, if_pos (Int32.not_le.mp z)])
    refine zT.step ct_X7_not3_ok ?_
    refine zT.step ct_X7_not3_ok ?_
    refine And.intro ⟨by decide, _, rfl⟩ ?_
    refine zT.step ct_X7_not3_ok ?_
    refine zT.step ct_X7_not3_ok ?_
    refine zT.step ct_X7_not3_ok ?_
    refine And.intro (fun q => ?_) (fun q => ?_)
    · have q : τ1 50 23 = (60 : Int32).toInt64 := (lg_cmp_eq _ _).mp q
      rw [hw] at q
      have q := (tok_sg (q := (60, -13)) (by decide)).mpr ⟨k3, i64_inj q⟩
      refine zT.step ct_X7_not3_ok ?_
      refine zT.step ct_X7_not3_ok ?_
      refine back 1 (fun a b => ?_)
      rw [ps_tf h4, q]
      rfl
    · have q : ¬ τ1 50 23 = (60 : Int32).toInt64 := fun z => q ((lg_cmp_eq _ _).mpr z)
      rw [hw] at q
      have q : ps_t f sz s1 = -14 := h.elim (fun z => absurd (by rw [ps_tf h4] at z; rw [((tok_sg (q := (60, -13)) (by decide)).mp z).2]) q) id
      refine zT.step ct_X7_not3_ok ?_
      refine back 0 (fun a b => ?_)
      rw [q]
      rfl
  refine zT.step ct_X7_not3_ok ?_
  refine zT.step ct_X7_not3_ok ?_
  refine zT.step ct_X7_not3_ok ?_
  refine zT.step ct_X7_not3_ok ?_
  refine And.intro ⟨by omega, by decide, _, rfl⟩ (zF.use (sg (60, -13) (by decide)) ?_)
  refine zT.step ct_X7_not3_ok ?_
  refine And.intro (fun h5 => ?_) (fun h => go (Or.inl (of_decide_eq_true (fb1 h))))
  have h5 := of_decide_eq_false (fb0 h5)
  refine zT.step ct_X7_not3_ok ?_
  refine zT.step ct_X7_not3_ok ?_
  refine zT.step ct_X7_not3_ok ?_
  refine And.intro ⟨by omega, by decide, _, rfl⟩ (zF.use (sg (61, -14) (by decide)) ?_)
  refine zT.step ct_X7_not3_ok ?_
  refine And.intro (fun h6 => ?_) (fun h => go (Or.inr (of_decide_eq_true (fb1 h))))
  have h6 := of_decide_eq_false (fb0 h6)
  have e := lp_no (f := f) (sz := sz) (g := g) (l := 2) 1 s1 (fun z => ((lev_2 _).mp z).elim h5 h6)
  rw [e]
  refine zT.step ct_X7_not3_ok ?_
  refine zT.step ct_X7_not3_ok ?_
  refine And.intro rfl ⟨σ1, τ1, v, rfl, rfl, h1, h2, fun hb st => ?_⟩
  show exL (ev σ) (c1 ++ []) st = _
  rw [List.append_nil]
  exact h3 hb st
theorem t_both3 {X : zXs} : PFn X m_X7_both3 3 26 (fun f sz => pr_1 f sz (pr_D f sz 2)) := by
  intro d σ τ r t sz s hd hs2 hR
  have hsz := hR.1.2.2.1
  obtain ⟨f, hf⟩ : ∃ f, f = tB σ t := ⟨_, rfl⟩
  obtain ⟨g, hg⟩ : ∃ g : PT, g = pr_2 f sz (pr_D f sz 2) := ⟨_, rfl⟩
  have hP : PK sz g := by rw [hg]; exact PK.L (PK.D 2) 2
  have eG : (fun f sz => pr_1 f sz (pr_D f sz 2)) (tB σ t) sz s = pr_lv f sz 160 1 g s := by rw [hg, ← hf]; rfl
  rw [eG]
  have call : ∀ (σ1 : zSg) (τ1 : Nat → Nat → Int64) (s1 : PS), SP σ σ1 → s1.2 = false → RP σ1 τ1 t sz s1 3 → zC X (d - 1) 0 0 m_X7_not3 [.ref 50] L0 (mm σ1 τ1 r) (zV σ r t sz 3 (g s1)) := by
    intro σ1 τ1 s1 hS h2 h3
    refine zC.wk (t_not3 (X := X) (d - 1) σ1 τ1 r t sz s1 (by omega) h2 h3) (fun w L2 μ2 hw => ?_)
    obtain ⟨hL, σ', τ', v, hv, hμ, hSP, hRP, hx⟩ := hw
    rw [hS.bytes, ← hf] at hRP hx
    dsimp only at hRP hx
    rw [← hg] at hRP hx
    exact ⟨hL, σ', τ', v, hv, hμ, hS.trans hSP, hRP, fun h st => by rw [← ev_sp hS]; exact hx h st⟩
  clear hg eG
  have lp : ∀ (m : Nat) (σ1 : zSg) (τ1 : Nat → Nat → Int64) (s1 : PS) (v : Int32), 160 ≤ m + s1.1 → SP σ σ1 → RP σ1 τ1 t sz s1 3 → (∀ (σ2 : zSg) (τ2 : Nat → Nat → Int64) (v2 : Int32), SP σ σ2 → RP σ2 τ2 t sz (pr_lp f sz 1 g m s1).1 3 → ((pr_lp f sz 1 g m s1).1.2 = false → ∀ st, exL (ev σ) (pr_lp f sz 1 g m s1).2 (v :: st) = v2 :: st) → zV σ r t sz 3 (pr_lv f sz 160 1 g s) (some (.int v2)) L0 (mm σ2 τ2 r)) → zT X d m_X7_both3 (zV σ r t sz 3 (pr_lv f sz 160 1 g s)) 0 0 5 [some (.ref 50), some (.int v), none] [] L0 (mm σ1 τ1 r) := by
    intro m
    induction m with
    | zero =>
      intro σ1 τ1 s1 v hm hS h3 K
      have sg : zF X (d - 1) m_X7_isWord [.ref 50, .int 97, .int 110, .int 100, .int 0, .int 0, .int 0, .int 0, .int 0] L0 (mm σ1 τ1 r) (some (.int (f_b (decide (ps_t f sz s1 = -12))))) (mm σ1 τ1 r) := by have := t_isWord (X := X) (d := d - 1) (r := r) (i := 10) (by decide) (by omega) h3; rw [hS.bytes, ← hf] at this; exact this
      refine zT.step ct_X7_both3_ok ?_
      refine zT.step ct_X7_both3_ok ?_
      refine zT.step ct_X7_both3_ok ?_
      refine zT.step ct_X7_both3_ok ?_
      refine zT.step ct_X7_both3_ok ?_
      refine zT.step ct_X7_both3_ok ?_
      refine zT.step ct_X7_both3_ok ?_
      refine zT.step ct_X7_both3_ok ?_
      refine zT.step ct_X7_both3_ok ?_
      refine zT.step ct_X7_both3_ok ?_
      refine And.intro ⟨by omega, by decide, _, rfl⟩ (zF.use sg ?_)
      refine zT.step ct_X7_both3_ok ?_
      refine And.intro (fun h => ?_) (fun h => ?_)
      · refine zT.step ct_X7_both3_ok ?_
        refine zT.step ct_X7_both3_ok ?_
        exact K σ1 τ1 v hS h3 (fun _ st => rfl)
      · have h := of_decide_eq_true (fb1 h)
        have := lp_end (f := f) h3.2.1 (by rw [h]; decide) (by rw [h]; decide)
        omega
    | succ m ih =>
      intro σ1 τ1 s1 v hm hS h3 K
      have sg : zF X (d - 1) m_X7_isWord [.ref 50, .int 97, .int 110, .int 100, .int 0, .int 0, .int 0, .int 0, .int 0] L0 (mm σ1 τ1 r) (some (.int (f_b (decide (ps_t f sz s1 = -12))))) (mm σ1 τ1 r) := by have := t_isWord (X := X) (d := d - 1) (r := r) (i := 10) (by decide) (by omega) h3; rw [hS.bytes, ← hf] at this; exact this
      refine zT.step ct_X7_both3_ok ?_
      refine zT.step ct_X7_both3_ok ?_
      refine zT.step ct_X7_both3_ok ?_
      refine zT.step ct_X7_both3_ok ?_
      refine zT.step ct_X7_both3_ok ?_
      refine zT.step ct_X7_both3_ok ?_
      refine zT.step ct_X7_both3_ok ?_
      refine zT.step ct_X7_both3_ok ?_
      refine zT.step ct_X7_both3_ok ?_
      refine zT.step ct_X7_both3_ok ?_
      refine And.intro ⟨by omega, by decide, _, rfl⟩ (zF.use sg ?_)
      refine zT.step ct_X7_both3_ok ?_
      refine And.intro (fun h => ?_) (fun h => ?_)
      · have h := of_decide_eq_false (fb0 h)
        have e := lp_no (f := f) (sz := sz) (g := g) (l := 1) (m + 1) s1 (fun z => h ((lev_1 _).mp z))
        rw [e] at K
        refine zT.step ct_X7_both3_ok ?_
        refine zT.step ct_X7_both3_ok ?_
        exact K σ1 τ1 v hS h3 (fun _ st => rfl)
      · have h := of_decide_eq_true (fb1 h)
        have h4 : s1.2 = false := ps_ok (by rw [h]; decide)
        have e := lp_yes (f := f) (sz := sz) (g := g) (l := 1) m s1 ((lev_1 _).mpr h)
        have ha := ps_a_le h3.2.1 (show ps_t f sz s1 ≠ -31 by rw [h]; decide) (by rw [h]; decide)
        have hgp := hP (ps_a f sz s1) ha.2.1
        have hcd : lx_t f sz s1.1 = z_wcd.getD 10 0 := by rw [← ps_tf h4]; exact h
        have nx := t_nextP (X := X) (d := d - 1) (r := r) (by omega) h3 h4 (by rw [hS.bytes, ← hf]; exact Or.inl ((tok_wd (by decide)).mp hcd).1)
        rw [hS.bytes, ← hf] at nx
        rw [e] at K
        refine zT.step ct_X7_both3_ok ?_
        refine zT.step ct_X7_both3_ok ?_
        refine And.intro ⟨by omega, by decide, _, rfl⟩ (zC.use nx (fun w L2 μ2 hw => ?_))
        obtain ⟨rfl, rfl, σ2, τ2, rfl, h5, h6⟩ := hw
        refine zT.step ct_X7_both3_ok ?_
        refine zT.step ct_X7_both3_ok ?_
        refine And.intro ⟨by omega, by decide, _, rfl⟩ (zC.use (call σ2 τ2 (ps_a f sz s1) (hS.trans h5) h4 h6) (fun w L2 μ2 hw => ?_))
        obtain ⟨rfl, σ3, τ3, v3, rfl, rfl, h7, h8, h9⟩ := hw
        have fin : ∀ x : Int32, x = f_jo (-12) v v3 → zT X d m_X7_both3 (zV σ r t sz 3 (pr_lv f sz 160 1 g s)) 0 0 45 [some (.ref 50), some (.int v), some (.int v3)] [.int x] L0 (mm σ3 τ3 r) := by
          intro x hx
          refine zT.step ct_X7_both3_ok ?_
          refine zT.step ct_X7_both3_ok ?_
          refine zT.drop 2 ?_
          refine ih σ3 τ3 (g (ps_a f sz s1)).1 x (by omega) h7 h8 (fun σ4 τ4 v4 k1 k2 k3 => K σ4 τ4 v4 k1 k2 (fun hb st => ?_))
          have h10 := lp_good (by decide) hb
          show exL (ev σ) ((g (ps_a f sz s1)).2 ++ ps_t f sz s1 :: (pr_lp f sz 1 g m (g (ps_a f sz s1)).1).2) (v :: st) = _
          rw [exL_app, h9 h10, h]
          show exL (ev σ) _ (f_jo (-12) v v3 :: st) = _
          rw [← hx]
          exact k3 hb st
        refine zT.step ct_X7_both3_ok ?_
        refine zT.step ct_X7_both3_ok ?_
        refine zT.step ct_X7_both3_ok ?_
        refine And.intro (fun z => ?_) (fun z => ?_)
        · have z : v = 0 := z
          refine zT.step ct_X7_both3_ok ?_
          exact fin 0 (by simp [f_jo, z])
        · have z : ¬ v = 0 := z
          refine zT.step ct_X7_both3_ok ?_
          refine zT.step ct_X7_both3_ok ?_
          refine And.intro (fun z2 => ?_) (fun z2 => ?_)
          · have z2 : v3 = 0 := z2
            refine zT.step ct_X7_both3_ok ?_
            exact fin 0 (by simp [f_jo, z2])
          · have z2 : ¬ v3 = 0 := z2
            refine zT.step ct_X7_both3_ok ?_
            refine zT.step ct_X7_both3_ok ?_
            exact fin 1 (by simp [f_jo, z, z2])
  refine zC.of mk_X7_both3 rfl ?_
  refine zT.step ct_X7_both3_ok ?_
  refine zT.step ct_X7_both3_ok ?_
  refine And.intro ⟨by omega, by decide, _, rfl⟩ (zC.use (call σ τ s SP.rf hs2 hR) (fun w L2 μ2 hw => ?_))
  obtain ⟨rfl, σ1, τ1, v, rfl, rfl, h1, h2, h3⟩ := hw
  refine zT.step ct_X7_both3_ok ?_
  refine lp 160 σ1 τ1 (g s).1 v (by omega) h1 h2 (fun σ2 τ2 v2 k1 k2 k3 => ⟨rfl, σ2, τ2, v2, rfl, rfl, k1, k2, fun hb st => ?_⟩)
  have h10 := lp_good (by decide) hb
  show exL (ev σ) ((g s).2 ++ (pr_lp f sz 1 g 160 (g s).1).2) st = _
  rw [exL_app, h3 h10]
  exact k3 hb st
theorem t_either3 {X : zXs} : PFn X m_X7_either3 3 27 (fun f sz => pr_0 f sz (pr_D f sz 2)) := by
  intro d σ τ r t sz s hd hs2 hR
  have hsz := hR.1.2.2.1
  obtain ⟨f, hf⟩ : ∃ f, f = tB σ t := ⟨_, rfl⟩
  obtain ⟨g, hg⟩ : ∃ g : PT, g = pr_1 f sz (pr_D f sz 2) := ⟨_, rfl⟩
  have hP : PK sz g := by rw [hg]; exact PK.L (PK.D 2) 1
  have eG : (fun f sz => pr_0 f sz (pr_D f sz 2)) (tB σ t) sz s = pr_lv f sz 160 0 g s := by rw [hg, ← hf]; rfl
  rw [eG]
  have call : ∀ (σ1 : zSg) (τ1 : Nat → Nat → Int64) (s1 : PS), SP σ σ1 → s1.2 = false → RP σ1 τ1 t sz s1 3 → zC X (d - 1) 0 0 m_X7_both3 [.ref 50] L0 (mm σ1 τ1 r) (zV σ r t sz 3 (g s1)) := by
    intro σ1 τ1 s1 hS h2 h3
    refine zC.wk (t_both3 (X := X) (d - 1) σ1 τ1 r t sz s1 (by omega) h2 h3) (fun w L2 μ2 hw => ?_)
    obtain ⟨hL, σ', τ', v, hv, hμ, hSP, hRP, hx⟩ := hw
    rw [hS.bytes, ← hf] at hRP hx
    dsimp only at hRP hx
    rw [← hg] at hRP hx
    exact ⟨hL, σ', τ', v, hv, hμ, hS.trans hSP, hRP, fun h st => by rw [← ev_sp hS]; exact hx h st⟩
  clear hg eG
  have lp : ∀ (m : Nat) (σ1 : zSg) (τ1 : Nat → Nat → Int64) (s1 : PS) (v : Int32), 160 ≤ m + s1.1 → SP σ σ1 → RP σ1 τ1 t sz s1 3 → (∀ (σ2 : zSg) (τ2 : Nat → Nat → Int64) (v2 : Int32), SP σ σ2 → RP σ2 τ2 t sz (pr_lp f sz 0 g m s1).1 3 → ((pr_lp f sz 0 g m s1).1.2 = false → ∀ st, exL (ev σ) (pr_lp f sz 0 g m s1).2 (v :: st) = v2 :: st) → zV σ r t sz 3 (pr_lv f sz 160 0 g s) (some (.int v2)) L0 (mm σ2 τ2 r)) → zT X d m_X7_either3 (zV σ r t sz 3 (pr_lv f sz 160 0 g s)) 0 0 5 [some (.ref 50), some (.int v), none] [] L0 (mm σ1 τ1 r) := by
    intro m
    induction m with
    | zero =>
      intro σ1 τ1 s1 v hm hS h3 K
      have sg : zF X (d - 1) m_X7_isWord [.ref 50, .int 111, .int 114, .int 0, .int 0, .int 0, .int 0, .int 0, .int 0] L0 (mm σ1 τ1 r) (some (.int (f_b (decide (ps_t f sz s1 = -11))))) (mm σ1 τ1 r) := by have := t_isWord (X := X) (d := d - 1) (r := r) (i := 9) (by decide) (by omega) h3; rw [hS.bytes, ← hf] at this; exact this
      refine zT.step ct_X7_either3_ok ?_
      refine zT.step ct_X7_either3_ok ?_
      refine zT.step ct_X7_either3_ok ?_
      refine zT.step ct_X7_either3_ok ?_
      refine zT.step ct_X7_either3_ok ?_
      refine zT.step ct_X7_either3_ok ?_
      refine zT.step ct_X7_either3_ok ?_
      refine zT.step ct_X7_either3_ok ?_
      refine zT.step ct_X7_either3_ok ?_
      refine zT.step ct_X7_either3_ok ?_
      refine And.intro ⟨by omega, by decide, _, rfl⟩ (zF.use sg ?_)
      refine zT.step ct_X7_either3_ok ?_
      refine And.intro (fun h => ?_) (fun h => ?_)
      · refine zT.step ct_X7_either3_ok ?_
        refine zT.step ct_X7_either3_ok ?_
        exact K σ1 τ1 v hS h3 (fun _ st => rfl)
      · have h := of_decide_eq_true (fb1 h)
        have := lp_end (f := f) h3.2.1 (by rw [h]; decide) (by rw [h]; decide)
        omega
    | succ m ih =>
      intro σ1 τ1 s1 v hm hS h3 K
      have sg : zF X (d - 1) m_X7_isWord [.ref 50, .int 111, .int 114, .int 0, .int 0, .int 0, .int 0, .int 0, .int 0] L0 (mm σ1 τ1 r) (some (.int (f_b (decide (ps_t f sz s1 = -11))))) (mm σ1 τ1 r) := by have := t_isWord (X := X) (d := d - 1) (r := r) (i := 9) (by decide) (by omega) h3; rw [hS.bytes, ← hf] at this; exact this
      refine zT.step ct_X7_either3_ok ?_
      refine zT.step ct_X7_either3_ok ?_
      refine zT.step ct_X7_either3_ok ?_
      refine zT.step ct_X7_either3_ok ?_
      refine zT.step ct_X7_either3_ok ?_
      refine zT.step ct_X7_either3_ok ?_
      refine zT.step ct_X7_either3_ok ?_
      refine zT.step ct_X7_either3_ok ?_
      refine zT.step ct_X7_either3_ok ?_
      refine zT.step ct_X7_either3_ok ?_
      refine And.intro ⟨by omega, by decide, _, rfl⟩ (zF.use sg ?_)
      refine zT.step ct_X7_either3_ok ?_
      refine And.intro (fun h => ?_) (fun h => ?_)
      · have h := of_decide_eq_false (fb0 h)
        have e := lp_no (f := f) (sz := sz) (g := g) (l := 0) (m + 1) s1 (fun z => h ((lev_0 _).mp z))
        rw [e] at K
        refine zT.step ct_X7_either3_ok ?_
        refine zT.step ct_X7_either3_ok ?_
        exact K σ1 τ1 v hS h3 (fun _ st => rfl)
      · have h := of_decide_eq_true (fb1 h)
        have h4 : s1.2 = false := ps_ok (by rw [h]; decide)
        have e := lp_yes (f := f) (sz := sz) (g := g) (l := 0) m s1 ((lev_0 _).mpr h)
        have ha := ps_a_le h3.2.1 (show ps_t f sz s1 ≠ -31 by rw [h]; decide) (by rw [h]; decide)
        have hgp := hP (ps_a f sz s1) ha.2.1
        have hcd : lx_t f sz s1.1 = z_wcd.getD 9 0 := by rw [← ps_tf h4]; exact h
        have nx := t_nextP (X := X) (d := d - 1) (r := r) (by omega) h3 h4 (by rw [hS.bytes, ← hf]; exact Or.inl ((tok_wd (by decide)).mp hcd).1)
        rw [hS.bytes, ← hf] at nx
        rw [e] at K
        refine zT.step ct_X7_either3_ok ?_
        refine zT.step ct_X7_either3_ok ?_
        refine And.intro ⟨by omega, by decide, _, rfl⟩ (zC.use nx (fun w L2 μ2 hw => ?_))
        obtain ⟨rfl, rfl, σ2, τ2, rfl, h5, h6⟩ := hw
        refine zT.step ct_X7_either3_ok ?_
        refine zT.step ct_X7_either3_ok ?_
        refine And.intro ⟨by omega, by decide, _, rfl⟩ (zC.use (call σ2 τ2 (ps_a f sz s1) (hS.trans h5) h4 h6) (fun w L2 μ2 hw => ?_))
        obtain ⟨rfl, σ3, τ3, v3, rfl, rfl, h7, h8, h9⟩ := hw
        have fin : ∀ x : Int32, x = f_jo (-11) v v3 → zT X d m_X7_either3 (zV σ r t sz 3 (pr_lv f sz 160 0 g s)) 0 0 44 [some (.ref 50), some (.int v), some (.int v3)] [.int x] L0 (mm σ3 τ3 r) := by
          intro x hx
          refine zT.step ct_X7_either3_ok ?_
          refine zT.step ct_X7_either3_ok ?_
          refine zT.drop 2 ?_
          refine ih σ3 τ3 (g (ps_a f sz s1)).1 x (by omega) h7 h8 (fun σ4 τ4 v4 k1 k2 k3 => K σ4 τ4 v4 k1 k2 (fun hb st => ?_))
          have h10 := lp_good (by decide) hb
          show exL (ev σ) ((g (ps_a f sz s1)).2 ++ ps_t f sz s1 :: (pr_lp f sz 0 g m (g (ps_a f sz s1)).1).2) (v :: st) = _
          rw [exL_app, h9 h10, h]
          show exL (ev σ) _ (f_jo (-11) v v3 :: st) = _
          rw [← hx]
          exact k3 hb st
        refine zT.step ct_X7_either3_ok ?_
        refine zT.step ct_X7_either3_ok ?_
        refine zT.step ct_X7_either3_ok ?_
        refine And.intro (fun z => ?_) (fun z => ?_)
        · have z : v = 0 := z
          refine zT.step ct_X7_either3_ok ?_
          refine zT.step ct_X7_either3_ok ?_
          refine And.intro (fun z2 => ?_) (fun z2 => ?_)
          · have z2 : v3 = 0 := z2
            refine zT.step ct_X7_either3_ok ?_
            exact fin 0 (by simp [f_jo, z, z2])
          · have z2 : ¬ v3 = 0 := z2
            refine zT.step ct_X7_either3_ok ?_
            refine zT.step ct_X7_either3_ok ?_
            exact fin 1 (by simp [f_jo, z2])
        · have z : ¬ v = 0 := z
          refine zT.step ct_X7_either3_ok ?_
          refine zT.step ct_X7_either3_ok ?_
          exact fin 1 (by simp [f_jo, z])
  refine zC.of mk_X7_either3 rfl ?_
  refine zT.step ct_X7_either3_ok ?_
  refine zT.step ct_X7_either3_ok ?_
  refine And.intro ⟨by omega, by decide, _, rfl⟩ (zC.use (call σ τ s SP.rf hs2 hR) (fun w L2 μ2 hw => ?_))
  obtain ⟨rfl, σ1, τ1, v, rfl, rfl, h1, h2, h3⟩ := hw
  refine zT.step ct_X7_either3_ok ?_
  refine lp 160 σ1 τ1 (g s).1 v (by omega) h1 h2 (fun σ2 τ2 v2 k1 k2 k3 => ⟨rfl, σ2, τ2, v2, rfl, rfl, k1, k2, fun hb st => ?_⟩)
  have h10 := lp_good (by decide) hb
  show exL (ev σ) ((g s).2 ++ (pr_lp f sz 0 g 160 (g s).1).2) st = _
  rw [exL_app, h3 h10]
  exact k3 hb st
