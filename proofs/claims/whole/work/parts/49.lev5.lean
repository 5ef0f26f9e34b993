/-! the reference's reading methods, opening by opening (printed by lev.py) -/
theorem lev_4 (x : Int32) : pr_lev x = 4 ↔ x = -17 := by
  unfold pr_lev
  constructor
  · intro h
    repeat' split at h
    all_goals first | assumption | exact absurd h (by decide)
  · intro h; rw [h]; decide
theorem lev_3 (x : Int32) : pr_lev x = 3 ↔ x = -15 ∨ x = -16 := by
  unfold pr_lev
  constructor
  · intro h
    repeat' split at h
    all_goals first | assumption | exact absurd h (by decide)
  · intro h; rcases h with h | h <;> (rw [h]; decide)
theorem lev_2 (x : Int32) : pr_lev x = 2 ↔ x = -13 ∨ x = -14 := by
  unfold pr_lev
  constructor
  · intro h
    repeat' split at h
    all_goals first | assumption | exact absurd h (by decide)
  · intro h; rcases h with h | h <;> (rw [h]; decide)
theorem lev_1 (x : Int32) : pr_lev x = 1 ↔ x = -12 := by
  unfold pr_lev
  constructor
  · intro h
    repeat' split at h
    all_goals first | assumption | exact absurd h (by decide)
  · intro h; rw [h]; decide
theorem lev_0 (x : Int32) : pr_lev x = 0 ↔ x = -11 := by
  unfold pr_lev
  constructor
  · intro h
    repeat' split at h
    all_goals first | assumption | exact absurd h (by decide)
  · intro h; rw [h]; decide
theorem ps_ok {f : Nat → Int32} {sz : Nat} {s : PS} (h : ps_t f sz s ≠ -31) : s.2 = false := by
  cases e : s.2 with
  | false => rfl
  | true => exact absurd (ps_tt e) h
theorem lp_no {f : Nat → Int32} {sz : Nat} {g : PT} {l : Int32} (m : Nat) (s : PS) (h : ¬ pr_lev (ps_t f sz s) = l) : pr_lp f sz l g m s = (s, []) := by
  cases m with
  | zero => rfl
  | succ m => unfold pr_lp; rw [if_neg h]
theorem lp_yes {f : Nat → Int32} {sz : Nat} {g : PT} {l : Int32} (m : Nat) (s : PS) (h : pr_lev (ps_t f sz s) = l) : pr_lp f sz l g (m + 1) s = ((pr_lp f sz l g m (g (ps_a f sz s)).1).1, (g (ps_a f sz s)).2 ++ ps_t f sz s :: (pr_lp f sz l g m (g (ps_a f sz s)).1).2) := by
  show (if pr_lev (ps_t f sz s) = l then _ else _) = _
  rw [if_pos h]
theorem lp_end {f : Nat → Int32} {sz : Nat} {s : PS} (hs : s.1 ≤ sz) (h1 : ps_t f sz s ≠ -31) (h2 : ps_t f sz s ≠ -30) : s.1 < sz := by
  rw [ps_tf (ps_ok h1)] at h2
  have := lx_t_end hs h2
  have := lx_b_le (f := f) hs
  omega
theorem lp_good {f : Nat → Int32} {sz : Nat} {g : PT} {l : Int32} {m : Nat} {s : PS} (hl : 0 ≤ l) (h : (pr_lp f sz l g m s).1.2 = false) : s.2 = false := by
  cases e : s.2 with
  | false => rfl
  | true =>
    have n : ¬ pr_lev (ps_t f sz s) = l := fun q => (pr_lev_t q hl).1 (ps_tt e)
    rw [lp_no m s n] at h
    have h : s.2 = false := h
    rw [e] at h
    cases h
theorem t_atom5D {X : zXs} : PFn X m_X7_atom5 5 8 (fun f sz => pr_one f sz (pr_D f sz 0)) := t_atom5
theorem t_term5 {X : zXs} : PFn X m_X7_term5 5 9 (fun f sz => pr_4 f sz (pr_D f sz 0)) := by
  intro d σ τ r t sz s hd hs2 hR
  have hsz := hR.1.2.2.1
  obtain ⟨f, hf⟩ : ∃ f, f = tB σ t := ⟨_, rfl⟩
  obtain ⟨g, hg⟩ : ∃ g : PT, g = pr_one f sz (pr_D f sz 0) := ⟨_, rfl⟩
  have hP : PK sz g := by rw [hg]; exact PK.one (PK.D 0)
  have eG : (fun f sz => pr_4 f sz (pr_D f sz 0)) (tB σ t) sz s = pr_lv f sz 160 4 g s := by rw [hg, ← hf]; rfl
  rw [eG]
  have call : ∀ (σ1 : zSg) (τ1 : Nat → Nat → Int64) (s1 : PS), SP σ σ1 → s1.2 = false → RP σ1 τ1 t sz s1 5 → zC X (d - 1) 0 0 m_X7_atom5 [.ref 50] L0 (mm σ1 τ1 r) (zV σ r t sz 5 (g s1)) := by
    intro σ1 τ1 s1 hS h2 h3
    refine zC.wk (t_atom5D (X := X) (d - 1) σ1 τ1 r t sz s1 (by omega) h2 h3) (fun w L2 μ2 hw => ?_)
    obtain ⟨hL, σ', τ', v, hv, hμ, hSP, hRP, hx⟩ := hw
    rw [hS.bytes, ← hf] at hRP hx
    dsimp only at hRP hx
    rw [← hg] at hRP hx
    exact ⟨hL, σ', τ', v, hv, hμ, hS.trans hSP, hRP, fun h st => by rw [← ev_sp hS]; exact hx h st⟩
  clear hg eG
  have lp : ∀ (m : Nat) (σ1 : zSg) (τ1 : Nat → Nat → Int64) (s1 : PS) (v : Int32), 160 ≤ m + s1.1 → SP σ σ1 → RP σ1 τ1 t sz s1 5 → (∀ (σ2 : zSg) (τ2 : Nat → Nat → Int64) (v2 : Int32), SP σ σ2 → RP σ2 τ2 t sz (pr_lp f sz 4 g m s1).1 5 → ((pr_lp f sz 4 g m s1).1.2 = false → ∀ st, exL (ev σ) (pr_lp f sz 4 g m s1).2 (v :: st) = v2 :: st) → zV σ r t sz 5 (pr_lv f sz 160 4 g s) (some (.int v2)) L0 (mm σ2 τ2 r)) → zT X d m_X7_term5 (zV σ r t sz 5 (pr_lv f sz 160 4 g s)) 0 0 5 [some (.ref 50), some (.int v)] [] L0 (mm σ1 τ1 r) := by
    intro m
    induction m with
    | zero =>
      intro σ1 τ1 s1 v hm hS h3 K
      have sg : zF X (d - 1) m_X7_isSign [.ref 50, .int 42] L0 (mm σ1 τ1 r) (some (.int (f_b (decide (ps_t f sz s1 = -17))))) (mm σ1 τ1 r) := by have := t_isSign (X := X) (d := d - 1) (r := r) (q := (42, -17)) (by decide) h3; rw [hS.bytes, ← hf] at this; exact this
      refine zT.step ct_X7_term5_ok ?_
      refine zT.step ct_X7_term5_ok ?_
      refine zT.step ct_X7_term5_ok ?_
      refine And.intro ⟨by omega, by decide, _, rfl⟩ (zF.use sg ?_)
      refine zT.step ct_X7_term5_ok ?_
      refine And.intro (fun h => ?_) (fun h => ?_)
      · refine zT.step ct_X7_term5_ok ?_
        refine zT.step ct_X7_term5_ok ?_
        exact K σ1 τ1 v hS h3 (fun _ st => rfl)
      · have h := of_decide_eq_true (fb1 h)
        have := lp_end (f := f) h3.2.1 (by rw [h]; decide) (by rw [h]; decide)
        omega
    | succ m ih =>
      intro σ1 τ1 s1 v hm hS h3 K
      have sg : zF X (d - 1) m_X7_isSign [.ref 50, .int 42] L0 (mm σ1 τ1 r) (some (.int (f_b (decide (ps_t f sz s1 = -17))))) (mm σ1 τ1 r) := by have := t_isSign (X := X) (d := d - 1) (r := r) (q := (42, -17)) (by decide) h3; rw [hS.bytes, ← hf] at this; exact this
      refine zT.step ct_X7_term5_ok ?_
      refine zT.step ct_X7_term5_ok ?_
      refine zT.step ct_X7_term5_ok ?_
      refine And.intro ⟨by omega, by decide, _, rfl⟩ (zF.use sg ?_)
      refine zT.step ct_X7_term5_ok ?_
      refine And.intro (fun h => ?_) (fun h => ?_)
      · have h := of_decide_eq_false (fb0 h)
        have e := lp_no (f := f) (sz := sz) (g := g) (l := 4) (m + 1) s1 (fun z => h ((lev_4 _).mp z))
        rw [e] at K
        refine zT.step ct_X7_term5_ok ?_
        refine zT.step ct_X7_term5_ok ?_
        exact K σ1 τ1 v hS h3 (fun _ st => rfl)
      · have h := of_decide_eq_true (fb1 h)
        have h4 : s1.2 = false := ps_ok (by rw [h]; decide)
        have e := lp_yes (f := f) (sz := sz) (g := g) (l := 4) m s1 ((lev_4 _).mpr h)
        have ha := ps_a_le h3.2.1 (show ps_t f sz s1 ≠ -31 by rw [h]; decide) (by rw [h]; decide)
        have hgp := hP (ps_a f sz s1) ha.2.1
        have nx := t_nextP (X := X) (d := d - 1) (r := r) (by omega) h3 h4 (by rw [hS.bytes, ← hf]; exact Or.inr (Or.inr (tok_sg (q := (42, -17)) (by decide) |>.mp (by rw [← ps_tf h4]; exact h)).1))
        rw [hS.bytes, ← hf] at nx
        rw [e] at K
        refine zT.step ct_X7_term5_ok ?_
        refine zT.step ct_X7_term5_ok ?_
        refine And.intro ⟨by omega, by decide, _, rfl⟩ (zC.use nx (fun w L2 μ2 hw => ?_))
        obtain ⟨rfl, rfl, σ2, τ2, rfl, h5, h6⟩ := hw
        refine zT.step ct_X7_term5_ok ?_
        refine zT.step ct_X7_term5_ok ?_
        refine zT.step ct_X7_term5_ok ?_
        refine And.intro ⟨by omega, by decide, _, rfl⟩ (zC.use (call σ2 τ2 (ps_a f sz s1) (hS.trans h5) h4 h6) (fun w L2 μ2 hw => ?_))
        obtain ⟨rfl, σ3, τ3, v3, rfl, rfl, h7, h8, h9⟩ := hw
        refine zT.step ct_X7_term5_ok ?_
        refine zT.step ct_X7_term5_ok ?_
        refine zT.step ct_X7_term5_ok ?_
        refine ih σ3 τ3 (g (ps_a f sz s1)).1 (v * v3) (by omega) h7 h8 (fun σ4 τ4 v4 k1 k2 k3 => K σ4 τ4 v4 k1 k2 (fun hb st => ?_))
        have h10 := lp_good (by decide) hb
        show exL (ev σ) ((g (ps_a f sz s1)).2 ++ ps_t f sz s1 :: (pr_lp f sz 4 g m (g (ps_a f sz s1)).1).2) (v :: st) = _
        rw [exL_app, h9 h10, h]
        exact k3 hb st
  refine zC.of mk_X7_term5 rfl ?_
  refine zT.step ct_X7_term5_ok ?_
  refine zT.step ct_X7_term5_ok ?_
  refine And.intro ⟨by omega, by decide, _, rfl⟩ (zC.use (call σ τ s SP.rf hs2 hR) (fun w L2 μ2 hw => ?_))
  obtain ⟨rfl, σ1, τ1, v, rfl, rfl, h1, h2, h3⟩ := hw
  refine zT.step ct_X7_term5_ok ?_
  refine lp 160 σ1 τ1 (g s).1 v (by omega) h1 h2 (fun σ2 τ2 v2 k1 k2 k3 => ⟨rfl, σ2, τ2, v2, rfl, rfl, k1, k2, fun hb st => ?_⟩)
  have h10 := lp_good (by decide) hb
  show exL (ev σ) ((g s).2 ++ (pr_lp f sz 4 g 160 (g s).1).2) st = _
  rw [exL_app, h3 h10]
  exact k3 hb st
theorem t_added5 {X : zXs} : PFn X m_X7_added5 5 10 (fun f sz => pr_3 f sz (pr_D f sz 0)) := by
  intro d σ τ r t sz s hd hs2 hR
  have hsz := hR.1.2.2.1
  obtain ⟨f, hf⟩ : ∃ f, f = tB σ t := ⟨_, rfl⟩
  obtain ⟨g, hg⟩ : ∃ g : PT, g = pr_4 f sz (pr_D f sz 0) := ⟨_, rfl⟩
  have hP : PK sz g := by rw [hg]; exact PK.L (PK.D 0) 4
  have eG : (fun f sz => pr_3 f sz (pr_D f sz 0)) (tB σ t) sz s = pr_lv f sz 160 3 g s := by rw [hg, ← hf]; rfl
  rw [eG]
  have call : ∀ (σ1 : zSg) (τ1 : Nat → Nat → Int64) (s1 : PS), SP σ σ1 → s1.2 = false → RP σ1 τ1 t sz s1 5 → zC X (d - 1) 0 0 m_X7_term5 [.ref 50] L0 (mm σ1 τ1 r) (zV σ r t sz 5 (g s1)) := by
    intro σ1 τ1 s1 hS h2 h3
    refine zC.wk (t_term5 (X := X) (d - 1) σ1 τ1 r t sz s1 (by omega) h2 h3) (fun w L2 μ2 hw => ?_)
    obtain ⟨hL, σ', τ', v, hv, hμ, hSP, hRP, hx⟩ := hw
    rw [hS.bytes, ← hf] at hRP hx
    dsimp only at hRP hx
    rw [← hg] at hRP hx
    exact ⟨hL, σ', τ', v, hv, hμ, hS.trans hSP, hRP, fun h st => by rw [← ev_sp hS]; exact hx h st⟩
  clear hg eG
  have lp : ∀ (m : Nat) (σ1 : zSg) (τ1 : Nat → Nat → Int64) (s1 : PS) (v : Int32), 160 ≤ m + s1.1 → SP σ σ1 → RP σ1 τ1 t sz s1 5 → (∀ (σ2 : zSg) (τ2 : Nat → Nat → Int64) (v2 : Int32), SP σ σ2 → RP σ2 τ2 t sz (pr_lp f sz 3 g m s1).1 5 → ((pr_lp f sz 3 g m s1).1.2 = false → ∀ st, exL (ev σ) (pr_lp f sz 3 g m s1).2 (v :: st) = v2 :: st) → zV σ r t sz 5 (pr_lv f sz 160 3 g s) (some (.int v2)) L0 (mm σ2 τ2 r)) → zT X d m_X7_added5 (zV σ r t sz 5 (pr_lv f sz 160 3 g s)) 0 0 5 [some (.ref 50), some (.int v), none, none] [] L0 (mm σ1 τ1 r) := by
    intro m
    induction m with
    | zero =>
      intro σ1 τ1 s1 v hm hS h3 K
      have sg : ∀ q ∈ z_sgl, zF X (d - 1) m_X7_isSign [.ref 50, .int q.1] L0 (mm σ1 τ1 r) (some (.int (f_b (decide (ps_t f sz s1 = q.2))))) (mm σ1 τ1 r) := fun q hq => by have := t_isSign (X := X) (d := d - 1) (r := r) hq h3; rw [hS.bytes, ← hf] at this; exact this
      have big : ps_t f sz s1 ≠ -31 → ps_t f sz s1 ≠ -30 → False := fun q1 q2 => by
        have := lp_end (f := f) h3.2.1 q1 q2
        omega
      refine zT.step ct_X7_added5_ok ?_
      refine zT.step ct_X7_added5_ok ?_
      refine zT.step ct_X7_added5_ok ?_
      refine And.intro ⟨by omega, by decide, _, rfl⟩ (zF.use (sg (43, -15) (by decide)) ?_)
      refine zT.step ct_X7_added5_ok ?_
      refine And.intro (fun _ => ?_) (fun h => ?_)
      case refine_2 =>
        have h := of_decide_eq_true (fb1 h)
        exact (big (by rw [h]; decide) (by rw [h]; decide)).elim
      refine zT.step ct_X7_added5_ok ?_
      refine zT.step ct_X7_added5_ok ?_
      refine zT.step ct_X7_added5_ok ?_
      refine And.intro ⟨by omega, by decide, _, rfl⟩ (zF.use (sg (45, -16) (by decide)) ?_)
      refine zT.step ct_X7_added5_ok ?_
      refine And.intro (fun h => ?_) (fun h => ?_)
      · refine zT.step ct_X7_added5_ok ?_
        refine zT.step ct_X7_added5_ok ?_
        exact K σ1 τ1 v hS h3 (fun _ st => rfl)
      · have h := of_decide_eq_true (fb1 h)
        exact (big (by rw [h]; decide) (by rw [h]; decide)).elim
    | succ m ih =>
      intro σ1 τ1 s1 v hm hS h3 K
      have sg : ∀ q ∈ z_sgl, zF X (d - 1) m_X7_isSign [.ref 50, .int q.1] L0 (mm σ1 τ1 r) (some (.int (f_b (decide (ps_t f sz s1 = q.2))))) (mm σ1 τ1 r) := fun q hq => by have := t_isSign (X := X) (d := d - 1) (r := r) hq h3; rw [hS.bytes, ← hf] at this; exact this
      have go : (ps_t f sz s1 = -15 ∨ ps_t f sz s1 = -16) → zT X d m_X7_added5 (zV σ r t sz 5 (pr_lv f sz 160 3 g s)) 0 0 23 [some (.ref 50), some (.int v), none, none] [] L0 (mm σ1 τ1 r) := by
        intro h
        have n1 : ps_t f sz s1 ≠ -31 := by rcases h with h | h <;> (rw [h]; decide)
        have n2 : ps_t f sz s1 ≠ -30 := by rcases h with h | h <;> (rw [h]; decide)
        have h4 : s1.2 = false := ps_ok n1
        have e := lp_yes (f := f) (sz := sz) (g := g) (l := 3) m s1 ((lev_3 _).mpr h)
        have ha := ps_a_le h3.2.1 n1 n2
        have hgp := hP (ps_a f sz s1) ha.2.1
        have hF := h3.2.2.2.2.1 h4
        rw [hS.bytes, ← hf] at hF
        have k3 : k_tok f sz s1.1 = 3 := by
          rw [ps_tf h4] at h
          rcases h with h | h
          · exact ((tok_sg (q := (43, -15)) (by decide)).mp h).1
          · exact ((tok_sg (q := (45, -16)) (by decide)).mp h).1
        have hw := hF.2.2.2.2 k3
        have nx := t_nextP (X := X) (d := d - 1) (r := r) (by omega) h3 h4 (by rw [hS.bytes, ← hf]; exact Or.inr (Or.inr k3))
        rw [hS.bytes, ← hf] at nx
        rw [e] at K
        have back : ∀ more : Int32, (∀ a b : Int32, f_jo (ps_t f sz s1) a b = if more = 0 then a - b else a + b) → zT X d m_X7_added5 (zV σ r t sz 5 (pr_lv f sz 160 3 g s)) 0 0 39 [some (.ref 50), some (.int v), none, none] [.int more] L0 (mm σ1 τ1 r) := by
          intro more hmo
          refine zT.step ct_X7_added5_ok ?_
          refine zT.step ct_X7_added5_ok ?_
          refine zT.step ct_X7_added5_ok ?_
          refine And.intro ⟨by omega, by decide, _, rfl⟩ (zC.use nx (fun w L2 μ2 hw => ?_))
          obtain ⟨rfl, rfl, σ2, τ2, rfl, h5, h6⟩ := hw
          refine zT.step ct_X7_added5_ok ?_
          refine zT.step ct_X7_added5_ok ?_
          refine And.intro ⟨by omega, by decide, _, rfl⟩ (zC.use (call σ2 τ2 (ps_a f sz s1) (hS.trans h5) h4 h6) (fun w L2 μ2 hw => ?_))
          obtain ⟨rfl, σ3, τ3, v3, rfl, rfl, h7, h8, h9⟩ := hw
          have fin : ∀ x : Int32, x = f_jo (ps_t f sz s1) v v3 → zT X d m_X7_added5 (zV σ r t sz 5 (pr_lv f sz 160 3 g s)) 0 0 62 [some (.ref 50), some (.int v), some (.int more), some (.int v3)] [.int x] L0 (mm σ3 τ3 r) := by
            intro x hx
            refine zT.step ct_X7_added5_ok ?_
            refine zT.step ct_X7_added5_ok ?_
            refine zT.drop 2 (zT.drop 3 ?_)
            refine ih σ3 τ3 (g (ps_a f sz s1)).1 x (by omega) h7 h8 (fun σ4 τ4 v4 k1 k2 k3 => K σ4 τ4 v4 k1 k2 (fun hb st => ?_))
            have h10 := lp_good (by decide) hb
            show exL (ev σ) ((g (ps_a f sz s1)).2 ++ ps_t f sz s1 :: (pr_lp f sz 3 g m (g (ps_a f sz s1)).1).2) (v :: st) = _
            rw [exL_app, h9 h10]
            have e1 : ex1 (ev σ) (ps_t f sz s1) (v3 :: v :: st) = x :: st := by
              rw [hx]
              rcases h with h | h <;> (rw [h]; rfl)
            show exL (ev σ) _ (ex1 (ev σ) (ps_t f sz s1) (v3 :: v :: st)) = _
            rw [e1]
            exact k3 hb st
          refine zT.step ct_X7_added5_ok ?_
          refine zT.step ct_X7_added5_ok ?_
          refine zT.step ct_X7_added5_ok ?_
          refine And.intro (fun q => ?_) (fun q => ?_)
          · have q : more = 0 := q
            refine zT.step ct_X7_added5_ok ?_
            refine zT.step ct_X7_added5_ok ?_
            refine zT.step ct_X7_added5_ok ?_
            exact fin _ (by rw [hmo, if_pos q])
          · have q : ¬ more = 0 := q
            refine zT.step ct_X7_added5_ok ?_
            refine zT.step ct_X7_added5_ok ?_
            refine zT.step ct_X7_added5_ok ?_
            refine zT.step ct_X7_added5_ok ?_
            exact fin _ (by rw [hmo, if_neg q])
        refine zT.step ct_X7_added5_ok ?_
        refine zT.step ct_X7_added5_ok ?_
        refine And.intro ⟨by decide, _, rfl⟩ ?_
        refine zT.step ct_X7_added5_ok ?_
        refine zT.step ct_X7_added5_ok ?_
        refine zT.step ct_X7_added5_ok ?_
        refine And.intro (fun q => ?_) (fun q => ?_)
        · have q : τ1 50 23 = (43 : Int32).toInt64 := (lg_cmp_eq _ _).mp q
          rw [hw] at q
          have q := (tok_sg (q := (43, -15)) (by decide)).mpr ⟨k3, i64_inj q⟩
          refine zT.step ct_X7_added5_ok ?_
          refine zT.step ct_X7_added5_ok ?_
          refine back 1 (fun a b => ?_)
          rw [ps_tf h4, q]
          rfl
        · have q : ¬ τ1 50 23 = (43 : Int32).toInt64 := fun z => q ((lg_cmp_eq _ _).mpr z)
          rw [hw] at q
          have q : ps_t f sz s1 = -16 := h.elim (fun z => absurd (by rw [ps_tf h4] at z; rw [((tok_sg (q := (43, -15)) (by decide)).mp z).2]) q) id
          refine zT.step ct_X7_added5_ok ?_
          refine back 0 (fun a b => ?_)
          rw [q]
          rfl
      refine zT.step ct_X7_added5_ok ?_
      refine zT.step ct_X7_added5_ok ?_
      refine zT.step ct_X7_added5_ok ?_
      refine And.intro ⟨by omega, by decide, _, rfl⟩ (zF.use (sg (43, -15) (by decide)) ?_)
      refine zT.step ct_X7_added5_ok ?_
      refine And.intro (fun h1 => ?_) (fun h => go (Or.inl (of_decide_eq_true (fb1 h))))
      have h1 := of_decide_eq_false (fb0 h1)
      refine zT.step ct_X7_added5_ok ?_
      refine zT.step ct_X7_added5_ok ?_
      refine zT.step ct_X7_added5_ok ?_
      refine And.intro ⟨by omega, by decide, _, rfl⟩ (zF.use (sg (45, -16) (by decide)) ?_)
      refine zT.step ct_X7_added5_ok ?_
      refine And.intro (fun h => ?_) (fun h => go (Or.inr (of_decide_eq_true (fb1 h))))
      have h := of_decide_eq_false (fb0 h)
      have e := lp_no (f := f) (sz := sz) (g := g) (l := 3) (m + 1) s1 (fun z => ((lev_3 _).mp z).elim h1 h)
      rw [e] at K
      refine zT.step ct_X7_added5_ok ?_
      refine zT.step ct_X7_added5_ok ?_
      exact K σ1 τ1 v hS h3 (fun _ st => rfl)
  refine zC.of mk_X7_added5 rfl ?_
  refine zT.step ct_X7_added5_ok ?_
  refine zT.step ct_X7_added5_ok ?_
  refine And.intro ⟨by omega, by decide, _, rfl⟩ (zC.use (call σ τ s SP.rf hs2 hR) (fun w L2 μ2 hw => ?_))
  obtain ⟨rfl, σ1, τ1, v, rfl, rfl, h1, h2, h3⟩ := hw
  refine zT.step ct_X7_added5_ok ?_
  refine lp 160 σ1 τ1 (g s).1 v (by omega) h1 h2 (fun σ2 τ2 v2 k1 k2 k3 => ⟨rfl, σ2, τ2, v2, rfl, rfl, k1, k2, fun hb st => ?_⟩)
  have h10 := lp_good (by decide) hb
  show exL (ev σ) ((g s).2 ++ (pr_lp f sz 3 g 160 (g s).1).2) st = _
  rw [exL_app, h3 h10]
  exact k3 hb st
theorem t_not5 {X : zXs} : PFn X m_X7_not5 5 11 (fun f sz => pr_2 f sz (pr_D f sz 0)) := by
  intro d σ τ r t sz s hd hs2 hR
  have hsz := hR.1.2.2.1
  obtain ⟨f, hf⟩ : ∃ f, f = tB σ t := ⟨_, rfl⟩
  have eG : (fun f sz => pr_2 f sz (pr_D f sz 0)) (tB σ t) sz s = pr_2 f sz (pr_D f sz 0) s := by rw [← hf]
  rw [eG]
  obtain ⟨g, hg⟩ : ∃ g : PT, g = pr_3 f sz (pr_D f sz 0) := ⟨_, rfl⟩
  have hP : PK sz g := by rw [hg]; exact PK.L (PK.D 0) 3
  have call : ∀ (σ1 : zSg) (τ1 : Nat → Nat → Int64) (s1 : PS), SP σ σ1 → s1.2 = false → RP σ1 τ1 t sz s1 5 → zC X (d - 1) 0 0 m_X7_added5 [.ref 50] L0 (mm σ1 τ1 r) (zV σ r t sz 5 (g s1)) := by
    intro σ1 τ1 s1 hS h2 h3
    refine zC.wk (t_added5 (X := X) (d - 1) σ1 τ1 r t sz s1 (by omega) h2 h3) (fun w L2 μ2 hw => ?_)
    obtain ⟨hL, σ', τ', v, hv, hμ, hSP, hRP, hx⟩ := hw
    rw [hS.bytes, ← hf] at hRP hx
    dsimp only at hRP hx
    rw [← hg] at hRP hx
    exact ⟨hL, σ', τ', v, hv, hμ, hS.trans hSP, hRP, fun h st => by rw [← ev_sp hS]; exact hx h st⟩
  have sw : zF X (d - 1) m_X7_isWord [.ref 50, .int 110, .int 111, .int 116, .int 0, .int 0, .int 0, .int 0, .int 0] L0 (mm σ τ r) (some (.int (f_b (decide (ps_t f sz s = -18))))) (mm σ τ r) := by have := t_isWord (X := X) (d := d - 1) (r := r) (i := 11) (by decide) (by omega) hR; rw [← hf] at this; exact this
  refine zC.of mk_X7_not5 rfl ?_
  refine zT.step ct_X7_not5_ok ?_
  refine zT.step ct_X7_not5_ok ?_
  refine zT.step ct_X7_not5_ok ?_
  refine zT.step ct_X7_not5_ok ?_
  refine zT.step ct_X7_not5_ok ?_
  refine zT.step ct_X7_not5_ok ?_
  refine zT.step ct_X7_not5_ok ?_
  refine zT.step ct_X7_not5_ok ?_
  refine zT.step ct_X7_not5_ok ?_
  refine zT.step ct_X7_not5_ok ?_
  refine And.intro ⟨by omega, by decide, _, rfl⟩ (zF.use sw ?_)
  refine zT.step ct_X7_not5_ok ?_
  refine And.intro (fun h => ?_) (fun h => ?_)
  case refine_2 =>
    have h := of_decide_eq_true (fb1 h)
    have e2 : pr_2 f sz (pr_D f sz 0) s = pr_beh f sz (pr_D f sz 0) (-18) 2 s := by unfold pr_2; rw [if_pos h]
    rw [e2]
    have op := t_opens5 (X := X) (d := d - 1) (r := r) (by omega) hR
    refine zT.step ct_X7_not5_ok ?_
    refine zT.step ct_X7_not5_ok ?_
    refine And.intro ⟨by omega, by decide, _, rfl⟩ (zC.use op (fun w L2 μ2 hw => ?_))
    obtain ⟨rfl, rfl, σ', rfl, h3, h4⟩ := hw
    refine zT.step ct_X7_not5_ok ?_
    refine zT.step ct_X7_not5_ok ?_
    refine zT.step ct_X7_not5_ok ?_
    exact And.intro rfl ⟨σ', τ, 0, rfl, rfl, h3, h4, fun h => by cases h⟩
  have h := of_decide_eq_false (fb0 h)
  have e2 : pr_2 f sz (pr_D f sz 0) s = pr_lv f sz 1 2 g s := by unfold pr_2; rw [if_neg h, hg]
  rw [e2]
  refine zT.step ct_X7_not5_ok ?_
  refine zT.step ct_X7_not5_ok ?_
  refine And.intro ⟨by omega, by decide, _, rfl⟩ (zC.use (call σ τ s SP.rf hs2 hR) (fun w L2 μ2 hw => ?_))
  obtain ⟨rfl, σ1, τ1, v, rfl, rfl, h1, h2, h3⟩ := hw
  have hgs := hP s hR.2.1
  obtain ⟨s1, hs1⟩ : ∃ s1, s1 = (g s).1 := ⟨_, rfl⟩
  have ev0 : pr_lv f sz 1 2 g s = ((pr_lp f sz 2 g 1 s1).1, (g s).2 ++ (pr_lp f sz 2 g 1 s1).2) := by rw [hs1]; rfl
  rw [ev0]
  rw [← hs1] at h2 h3
  generalize (g s).2 = c1 at h3 ⊢
  have sg : ∀ q ∈ z_sgl, zF X (d - 1) m_X7_isSign [.ref 50, .int q.1] L0 (mm σ1 τ1 r) (some (.int (f_b (decide (ps_t f sz s1 = q.2))))) (mm σ1 τ1 r) := fun q hq => by have := t_isSign (X := X) (d := d - 1) (r := r) hq h2; rw [h1.bytes, ← hf] at this; exact this
  have go : (ps_t f sz s1 = -13 ∨ ps_t f sz s1 = -14) → zT X d m_X7_not5 (zV σ r t sz 5 ((pr_lp f sz 2 g 1 s1).1, c1 ++ (pr_lp f sz 2 g 1 s1).2)) 0 0 50 [some (.ref 50), some (.int v), none, none] [] L0 (mm σ1 τ1 r) := by
    intro h
    have n1 : ps_t f sz s1 ≠ -31 := by rcases h with h | h <;> (rw [h]; decide)
    have n2 : ps_t f sz s1 ≠ -30 := by rcases h with h | h <;> (rw [h]; decide)
    have h4 : s1.2 = false := ps_ok n1
    have e := lp_yes (f := f) (sz := sz) (g := g) (l := 2) 0 s1 ((lev_2 _).mpr h)
    have hF := h2.2.2.2.2.1 h4
    rw [h1.bytes, ← hf] at hF
    have k3 : k_tok f sz s1.1 = 3 := by
      rw [ps_tf h4] at h
      rcases h with h | h
      · exact ((tok_sg (q := (60, -13)) (by decide)).mp h).1
      · exact ((tok_sg (q := (61, -14)) (by decide)).mp h).1
    have hw := hF.2.2.2.2 k3
    have nx := t_nextP (X := X) (d := d - 1) (r := r) (by omega) h2 h4 (by rw [h1.bytes, ← hf]; exact Or.inr (Or.inr k3))
    rw [h1.bytes, ← hf] at nx
    rw [e]
    have back : ∀ more : Int32, (∀ a b : Int32, f_jo (ps_t f sz s1) a b = if more = 0 then (if a = b then 1 else 0) else (if a < b then 1 else 0)) → zT X d m_X7_not5 (zV σ r t sz 5 ((pr_lp f sz 2 g 0 (g (ps_a f sz s1)).1).1, c1 ++ ((g (ps_a f sz s1)).2 ++ ps_t f sz s1 :: (pr_lp f sz 2 g 0 (g (ps_a f sz s1)).1).2))) 0 0 66 [some (.ref 50), some (.int v), none, none] [.int more] L0 (mm σ1 τ1 r) := by
      intro more hmo
      refine zT.step ct_X7_not5_ok ?_
      refine zT.step ct_X7_not5_ok ?_
      refine zT.step ct_X7_not5_ok ?_
      refine And.intro ⟨by omega, by decide, _, rfl⟩ (zC.use nx (fun w L2 μ2 hw => ?_))
      obtain ⟨rfl, rfl, σ2, τ2, rfl, h5, h6⟩ := hw
      refine zT.step ct_X7_not5_ok ?_
      refine zT.step ct_X7_not5_ok ?_
      refine And.intro ⟨by omega, by decide, _, rfl⟩ (zC.use (call σ2 τ2 (ps_a f sz s1) (h1.trans h5) h4 h6) (fun w L2 μ2 hw => ?_))
      obtain ⟨rfl, σ3, τ3, v3, rfl, rfl, h7, h8, h9⟩ := hw
      have fin : ∀ x : Int32, x = f_jo (ps_t f sz s1) v v3 → zT X d m_X7_not5 (zV σ r t sz 5 ((pr_lp f sz 2 g 0 (g (ps_a f sz s1)).1).1, c1 ++ ((g (ps_a f sz s1)).2 ++ ps_t f sz s1 :: (pr_lp f sz 2 g 0 (g (ps_a f sz s1)).1).2))) 0 0 98 [some (.ref 50), some (.int v), some (.int more), some (.int v3)] [.int x] L0 (mm σ3 τ3 r) := by
        intro x hx
        refine zT.step ct_X7_not5_ok ?_
        refine And.intro rfl ⟨σ3, τ3, x, rfl, rfl, h7, h8, fun hb st => ?_⟩
        have hb : (g (ps_a f sz s1)).1.2 = false := hb
        show exL (ev σ) (c1 ++ ((g (ps_a f sz s1)).2 ++ [ps_t f sz s1])) st = _
        rw [exL_app, h3 h4, exL_app, h9 hb]
        show ex1 (ev σ) (ps_t f sz s1) (v3 :: v :: st) = x :: st
        rw [hx]
        rcases h with h | h <;> (rw [h]; rfl)
      refine zT.step ct_X7_not5_ok ?_
      refine zT.step ct_X7_not5_ok ?_
      refine zT.step ct_X7_not5_ok ?_
      refine And.intro (fun q => ?_) (fun q => ?_)
      · have q : more = 0 := q
        refine zT.step ct_X7_not5_ok ?_
        refine zT.step ct_X7_not5_ok ?_
        refine zT.step ct_X7_not5_ok ?_
        refine And.intro (fun z => ?_) (fun z => ?_)
        · have z : v = v3 := z
          refine zT.step ct_X7_not5_ok ?_
          refine zT.step ct_X7_not5_ok ?_
          exact fin 1 (by rw [hmo, if_pos q, if_pos z])
        · have z : ¬ v = v3 := z
          refine zT.step ct_X7_not5_ok ?_
          exact fin 0 (by rw [hmo, if_pos q, if_neg z])
      · have q : ¬ more = 0 := q
        refine zT.step ct_X7_not5_ok ?_
        refine zT.step ct_X7_not5_ok ?_
        refine zT.step ct_X7_not5_ok ?_
        refine And.intro (fun z => ?_) (fun z => ?_)
        · have z : v3 ≤ v := z
          refine zT.step ct_X7_not5_ok ?_
          exact fin 0 (by rw [hmo, if_neg q, if_neg (Int32.not_lt.mpr z)])
        · have z : ¬ v3 ≤ v := z
          refine zT.step ct_X7_not5_ok ?_
          refine zT.step ct_X7_not5_ok ?_
          refine zT.step ct_X7_not5_ok ?_
          exact fin 1 (by rw [hmo, if_neg q, if_pos (Int32.not_le.mp z)])
    refine zT.step ct_X7_not5_ok ?_
    refine zT.step ct_X7_not5_ok ?_
    refine And.intro ⟨by decide, _, rfl⟩ ?_
    refine zT.step ct_X7_not5_ok ?_
    refine zT.step ct_X7_not5_ok ?_
    refine zT.step ct_X7_not5_ok ?_
    refine And.intro (fun q => ?_) (fun q => ?_)
    · have q : τ1 50 23 = (60 : Int32).toInt64 := (lg_cmp_eq _ _).mp q
      rw [hw] at q
      have q := (tok_sg (q := (60, -13)) (by decide)).mpr ⟨k3, i64_inj q⟩
      refine zT.step ct_X7_not5_ok ?_
      refine zT.step ct_X7_not5_ok ?_
      refine back 1 (fun a b => ?_)
      rw [ps_tf h4, q]
      rfl
    · have q : ¬ τ1 50 23 = (60 : Int32).toInt64 := fun z => q ((lg_cmp_eq _ _).mpr z)
      rw [hw] at q
      have q : ps_t f sz s1 = -14 := h.elim (fun z => absurd (by rw [ps_tf h4] at z; rw [((tok_sg (q := (60, -13)) (by decide)).mp z).2]) q) id
      refine zT.step ct_X7_not5_ok ?_
      refine back 0 (fun a b => ?_)
      rw [q]
      rfl
  refine zT.step ct_X7_not5_ok ?_
  refine zT.step ct_X7_not5_ok ?_
  refine zT.step ct_X7_not5_ok ?_
  refine zT.step ct_X7_not5_ok ?_
  refine And.intro ⟨by omega, by decide, _, rfl⟩ (zF.use (sg (60, -13) (by decide)) ?_)
  refine zT.step ct_X7_not5_ok ?_
  refine And.intro (fun h5 => ?_) (fun h => go (Or.inl (of_decide_eq_true (fb1 h))))
  have h5 := of_decide_eq_false (fb0 h5)
  refine zT.step ct_X7_not5_ok ?_
  refine zT.step ct_X7_not5_ok ?_
  refine zT.step ct_X7_not5_ok ?_
  refine And.intro ⟨by omega, by decide, _, rfl⟩ (zF.use (sg (61, -14) (by decide)) ?_)
  refine zT.step ct_X7_not5_ok ?_
  refine And.intro (fun h6 => ?_) (fun h => go (Or.inr (of_decide_eq_true (fb1 h))))
  have h6 := of_decide_eq_false (fb0 h6)
  have e := lp_no (f := f) (sz := sz) (g := g) (l := 2) 1 s1 (fun z => ((lev_2 _).mp z).elim h5 h6)
  rw [e]
  refine zT.step ct_X7_not5_ok ?_
  refine zT.step ct_X7_not5_ok ?_
  refine And.intro rfl ⟨σ1, τ1, v, rfl, rfl, h1, h2, fun hb st => ?_⟩
  show exL (ev σ) (c1 ++ []) st = _
  rw [List.append_nil]
  exact h3 hb st
theorem t_both5 {X : zXs} : PFn X m_X7_both5 5 12 (fun f sz => pr_1 f sz (pr_D f sz 0)) := by
  intro d σ τ r t sz s hd hs2 hR
  have hsz := hR.1.2.2.1
  obtain ⟨f, hf⟩ : ∃ f, f = tB σ t := ⟨_, rfl⟩
  obtain ⟨g, hg⟩ : ∃ g : PT, g = pr_2 f sz (pr_D f sz 0) := ⟨_, rfl⟩
  have hP : PK sz g := by rw [hg]; exact PK.L (PK.D 0) 2
  have eG : (fun f sz => pr_1 f sz (pr_D f sz 0)) (tB σ t) sz s = pr_lv f sz 160 1 g s := by rw [hg, ← hf]; rfl
  rw [eG]
  have call : ∀ (σ1 : zSg) (τ1 : Nat → Nat → Int64) (s1 : PS), SP σ σ1 → s1.2 = false → RP σ1 τ1 t sz s1 5 → zC X (d - 1) 0 0 m_X7_not5 [.ref 50] L0 (mm σ1 τ1 r) (zV σ r t sz 5 (g s1)) := by
    intro σ1 τ1 s1 hS h2 h3
    refine zC.wk (t_not5 (X := X) (d - 1) σ1 τ1 r t sz s1 (by omega) h2 h3) (fun w L2 μ2 hw => ?_)
    obtain ⟨hL, σ', τ', v, hv, hμ, hSP, hRP, hx⟩ := hw
    rw [hS.bytes, ← hf] at hRP hx
    dsimp only at hRP hx
    rw [← hg] at hRP hx
    exact ⟨hL, σ', τ', v, hv, hμ, hS.trans hSP, hRP, fun h st => by rw [← ev_sp hS]; exact hx h st⟩
  clear hg eG
  have lp : ∀ (m : Nat) (σ1 : zSg) (τ1 : Nat → Nat → Int64) (s1 : PS) (v : Int32), 160 ≤ m + s1.1 → SP σ σ1 → RP σ1 τ1 t sz s1 5 → (∀ (σ2 : zSg) (τ2 : Nat → Nat → Int64) (v2 : Int32), SP σ σ2 → RP σ2 τ2 t sz (pr_lp f sz 1 g m s1).1 5 → ((pr_lp f sz 1 g m s1).1.2 = false → ∀ st, exL (ev σ) (pr_lp f sz 1 g m s1).2 (v :: st) = v2 :: st) → zV σ r t sz 5 (pr_lv f sz 160 1 g s) (some (.int v2)) L0 (mm σ2 τ2 r)) → zT X d m_X7_both5 (zV σ r t sz 5 (pr_lv f sz 160 1 g s)) 0 0 5 [some (.ref 50), some (.int v), none] [] L0 (mm σ1 τ1 r) := by
    intro m
    induction m with
    | zero =>
      intro σ1 τ1 s1 v hm hS h3 K
      have sg : zF X (d - 1) m_X7_isWord [.ref 50, .int 97, .int 110, .int 100, .int 0, .int 0, .int 0, .int 0, .int 0] L0 (mm σ1 τ1 r) (some (.int (f_b (decide (ps_t f sz s1 = -12))))) (mm σ1 τ1 r) := by have := t_isWord (X := X) (d := d - 1) (r := r) (i := 10) (by decide) (by omega) h3; rw [hS.bytes, ← hf] at this; exact this
      refine zT.step ct_X7_both5_ok ?_
      refine zT.step ct_X7_both5_ok ?_
      refine zT.step ct_X7_both5_ok ?_
      refine zT.step ct_X7_both5_ok ?_
      refine zT.step ct_X7_both5_ok ?_
      refine zT.step ct_X7_both5_ok ?_
      refine zT.step ct_X7_both5_ok ?_
      refine zT.step ct_X7_both5_ok ?_
      refine zT.step ct_X7_both5_ok ?_
      refine zT.step ct_X7_both5_ok ?_
      refine And.intro ⟨by omega, by decide, _, rfl⟩ (zF.use sg ?_)
      refine zT.step ct_X7_both5_ok ?_
      refine And.intro (fun h => ?_) (fun h => ?_)
      · refine zT.step ct_X7_both5_ok ?_
        refine zT.step ct_X7_both5_ok ?_
        exact K σ1 τ1 v hS h3 (fun _ st => rfl)
      · have h := of_decide_eq_true (fb1 h)
        have := lp_end (f := f) h3.2.1 (by rw [h]; decide) (by rw [h]; decide)
        omega
    | succ m ih =>
      intro σ1 τ1 s1 v hm hS h3 K
      have sg : zF X (d - 1) m_X7_isWord [.ref 50, .int 97, .int 110, .int 100, .int 0, .int 0, .int 0, .int 0, .int 0] L0 (mm σ1 τ1 r) (some (.int (f_b (decide (ps_t f sz s1 = -12))))) (mm σ1 τ1 r) := by have := t_isWord (X := X) (d := d - 1) (r := r) (i := 10) (by decide) (by omega) h3; rw [hS.bytes, ← hf] at this; exact this
      refine zT.step ct_X7_both5_ok ?_
      refine zT.step ct_X7_both5_ok ?_
      refine zT.step ct_X7_both5_ok ?_
      refine zT.step ct_X7_both5_ok ?_
      refine zT.step ct_X7_both5_ok ?_
      refine zT.step ct_X7_both5_ok ?_
      refine zT.step ct_X7_both5_ok ?_
      refine zT.step ct_X7_both5_ok ?_
      refine zT.step ct_X7_both5_ok ?_
      refine zT.step ct_X7_both5_ok ?_
      refine And.intro ⟨by omega, by decide, _, rfl⟩ (zF.use sg ?_)
      refine zT.step ct_X7_both5_ok ?_
      refine And.intro (fun h => ?_) (fun h => ?_)
      · have h := of_decide_eq_false (fb0 h)
        have e := lp_no (f := f) (sz := sz) (g := g) (l := 1) (m + 1) s1 (fun z => h ((lev_1 _).mp z))
        rw [e] at K
        refine zT.step ct_X7_both5_ok ?_
        refine zT.step ct_X7_both5_ok ?_
        exact K σ1 τ1 v hS h3 (fun _ st => rfl)
      · have h := of_decide_eq_true (fb1 h)
        have h4 : s1.2 = false := ps_ok (by rw [h]; decide)
        have e := lp_yes (f := f) (sz := sz) (g := g) (l := 1) m s1 ((lev_1 _).mpr h)
        have ha := ps_a_le h3.2.1 (show ps_t f sz s1 ≠ -31 by rw [h]; decide) (by rw [h]; decide)
        have hgp := hP (ps_a f sz s1) ha.2.1
        have hcd : lx_t f sz s1.1 = z_wcd.getD 10 0 := by rw [← ps_tf h4]; exact h
        have nx := t_nextP (X := X) (d := d - 1) (r := r) (by omega) h3 h4 (by rw [hS.bytes, ← hf]; exact Or.inl ((tok_wd (by decide)).mp hcd).1)
        rw [hS.bytes, ← hf] at nx
        rw [e] at K
        refine zT.step ct_X7_both5_ok ?_
        refine zT.step ct_X7_both5_ok ?_
        refine And.intro ⟨by omega, by decide, _, rfl⟩ (zC.use nx (fun w L2 μ2 hw => ?_))
        obtain ⟨rfl, rfl, σ2, τ2, rfl, h5, h6⟩ := hw
        refine zT.step ct_X7_both5_ok ?_
        refine zT.step ct_X7_both5_ok ?_
        refine And.intro ⟨by omega, by decide, _, rfl⟩ (zC.use (call σ2 τ2 (ps_a f sz s1) (hS.trans h5) h4 h6) (fun w L2 μ2 hw => ?_))
        obtain ⟨rfl, σ3, τ3, v3, rfl, rfl, h7, h8, h9⟩ := hw
        have fin : ∀ x : Int32, x = f_jo (-12) v v3 → zT X d m_X7_both5 (zV σ r t sz 5 (pr_lv f sz 160 1 g s)) 0 0 45 [some (.ref 50), some (.int v), some (.int v3)] [.int x] L0 (mm σ3 τ3 r) := by
          intro x hx
          refine zT.step ct_X7_both5_ok ?_
          refine zT.step ct_X7_both5_ok ?_
          refine zT.drop 2 ?_
          refine ih σ3 τ3 (g (ps_a f sz s1)).1 x (by omega) h7 h8 (fun σ4 τ4 v4 k1 k2 k3 => K σ4 τ4 v4 k1 k2 (fun hb st => ?_))
          have h10 := lp_good (by decide) hb
          show exL (ev σ) ((g (ps_a f sz s1)).2 ++ ps_t f sz s1 :: (pr_lp f sz 1 g m (g (ps_a f sz s1)).1).2) (v :: st) = _
          rw [exL_app, h9 h10, h]
          show exL (ev σ) _ (f_jo (-12) v v3 :: st) = _
          rw [← hx]
          exact k3 hb st
        refine zT.step ct_X7_both5_ok ?_
        refine zT.step ct_X7_both5_ok ?_
        refine zT.step ct_X7_both5_ok ?_
        refine And.intro (fun z => ?_) (fun z => ?_)
        · have z : v = 0 := z
          refine zT.step ct_X7_both5_ok ?_
          exact fin 0 (by simp [f_jo, z])
        · have z : ¬ v = 0 := z
          refine zT.step ct_X7_both5_ok ?_
          refine zT.step ct_X7_both5_ok ?_
          refine And.intro (fun z2 => ?_) (fun z2 => ?_)
          · have z2 : v3 = 0 := z2
            refine zT.step ct_X7_both5_ok ?_
            exact fin 0 (by simp [f_jo, z2])
          · have z2 : ¬ v3 = 0 := z2
            refine zT.step ct_X7_both5_ok ?_
            refine zT.step ct_X7_both5_ok ?_
            exact fin 1 (by simp [f_jo, z, z2])
  refine zC.of mk_X7_both5 rfl ?_
  refine zT.step ct_X7_both5_ok ?_
  refine zT.step ct_X7_both5_ok ?_
  refine And.intro ⟨by omega, by decide, _, rfl⟩ (zC.use (call σ τ s SP.rf hs2 hR) (fun w L2 μ2 hw => ?_))
  obtain ⟨rfl, σ1, τ1, v, rfl, rfl, h1, h2, h3⟩ := hw
  refine zT.step ct_X7_both5_ok ?_
  refine lp 160 σ1 τ1 (g s).1 v (by omega) h1 h2 (fun σ2 τ2 v2 k1 k2 k3 => ⟨rfl, σ2, τ2, v2, rfl, rfl, k1, k2, fun hb st => ?_⟩)
  have h10 := lp_good (by decide) hb
  show exL (ev σ) ((g s).2 ++ (pr_lp f sz 1 g 160 (g s).1).2) st = _
  rw [exL_app, h3 h10]
  exact k3 hb st
theorem t_either5 {X : zXs} : PFn X m_X7_either5 5 13 (fun f sz => pr_0 f sz (pr_D f sz 0)) := by
  intro d σ τ r t sz s hd hs2 hR
  have hsz := hR.1.2.2.1
  obtain ⟨f, hf⟩ : ∃ f, f = tB σ t := ⟨_, rfl⟩
  obtain ⟨g, hg⟩ : ∃ g : PT, g = pr_1 f sz (pr_D f sz 0) := ⟨_, rfl⟩
  have hP : PK sz g := by rw [hg]; exact PK.L (PK.D 0) 1
  have eG : (fun f sz => pr_0 f sz (pr_D f sz 0)) (tB σ t) sz s = pr_lv f sz 160 0 g s := by rw [hg, ← hf]; rfl
  rw [eG]
  have call : ∀ (σ1 : zSg) (τ1 : Nat → Nat → Int64) (s1 : PS), SP σ σ1 → s1.2 = false → RP σ1 τ1 t sz s1 5 → zC X (d - 1) 0 0 m_X7_both5 [.ref 50] L0 (mm σ1 τ1 r) (zV σ r t sz 5 (g s1)) := by
    intro σ1 τ1 s1 hS h2 h3
    refine zC.wk (t_both5 (X := X) (d - 1) σ1 τ1 r t sz s1 (by omega) h2 h3) (fun w L2 μ2 hw => ?_)
    obtain ⟨hL, σ', τ', v, hv, hμ, hSP, hRP, hx⟩ := hw
    rw [hS.bytes, ← hf] at hRP hx
    dsimp only at hRP hx
    rw [← hg] at hRP hx
    exact ⟨hL, σ', τ', v, hv, hμ, hS.trans hSP, hRP, fun h st => by rw [← ev_sp hS]; exact hx h st⟩
  clear hg eG
  have lp : ∀ (m : Nat) (σ1 : zSg) (τ1 : Nat → Nat → Int64) (s1 : PS) (v : Int32), 160 ≤ m + s1.1 → SP σ σ1 → RP σ1 τ1 t sz s1 5 → (∀ (σ2 : zSg) (τ2 : Nat → Nat → Int64) (v2 : Int32), SP σ σ2 → RP σ2 τ2 t sz (pr_lp f sz 0 g m s1).1 5 → ((pr_lp f sz 0 g m s1).1.2 = false → ∀ st, exL (ev σ) (pr_lp f sz 0 g m s1).2 (v :: st) = v2 :: st) → zV σ r t sz 5 (pr_lv f sz 160 0 g s) (some (.int v2)) L0 (mm σ2 τ2 r)) → zT X d m_X7_either5 (zV σ r t sz 5 (pr_lv f sz 160 0 g s)) 0 0 5 [some (.ref 50), some (.int v), none] [] L0 (mm σ1 τ1 r) := by
    intro m
    induction m with
    | zero =>
      intro σ1 τ1 s1 v hm hS h3 K
      have sg : zF X (d - 1) m_X7_isWord [.ref 50, .int 111, .int 114, .int 0, .int 0, .int 0, .int 0, .int 0, .int 0] L0 (mm σ1 τ1 r) (some (.int (f_b (decide (ps_t f sz s1 = -11))))) (mm σ1 τ1 r) := by have := t_isWord (X := X) (d := d - 1) (r := r) (i := 9) (by decide) (by omega) h3; rw [hS.bytes, ← hf] at this; exact this
      refine zT.step ct_X7_either5_ok ?_
      refine zT.step ct_X7_either5_ok ?_
      refine zT.step ct_X7_either5_ok ?_
      refine zT.step ct_X7_either5_ok ?_
      refine zT.step ct_X7_either5_ok ?_
      refine zT.step ct_X7_either5_ok ?_
      refine zT.step ct_X7_either5_ok ?_
      refine zT.step ct_X7_either5_ok ?_
      refine zT.step ct_X7_either5_ok ?_
      refine zT.step ct_X7_either5_ok ?_
      refine And.intro ⟨by omega, by decide, _, rfl⟩ (zF.use sg ?_)
      refine zT.step ct_X7_either5_ok ?_
      refine And.intro (fun h => ?_) (fun h => ?_)
      · refine zT.step ct_X7_either5_ok ?_
        refine zT.step ct_X7_either5_ok ?_
        exact K σ1 τ1 v hS h3 (fun _ st => rfl)
      · have h := of_decide_eq_true (fb1 h)
        have := lp_end (f := f) h3.2.1 (by rw [h]; decide) (by rw [h]; decide)
        omega
    | succ m ih =>
      intro σ1 τ1 s1 v hm hS h3 K
      have sg : zF X (d - 1) m_X7_isWord [.ref 50, .int 111, .int 114, .int 0, .int 0, .int 0, .int 0, .int 0, .int 0] L0 (mm σ1 τ1 r) (some (.int (f_b (decide (ps_t f sz s1 = -11))))) (mm σ1 τ1 r) := by have := t_isWord (X := X) (d := d - 1) (r := r) (i := 9) (by decide) (by omega) h3; rw [hS.bytes, ← hf] at this; exact this
      refine zT.step ct_X7_either5_ok ?_
      refine zT.step ct_X7_either5_ok ?_
      refine zT.step ct_X7_either5_ok ?_
      refine zT.step ct_X7_either5_ok ?_
      refine zT.step ct_X7_either5_ok ?_
      refine zT.step ct_X7_either5_ok ?_
      refine zT.step ct_X7_either5_ok ?_
      refine zT.step ct_X7_either5_ok ?_
      refine zT.step ct_X7_either5_ok ?_
      refine zT.step ct_X7_either5_ok ?_
      refine And.intro ⟨by omega, by decide, _, rfl⟩ (zF.use sg ?_)
      refine zT.step ct_X7_either5_ok ?_
      refine And.intro (fun h => ?_) (fun h => ?_)
      · have h := of_decide_eq_false (fb0 h)
        have e := lp_no (f := f) (sz := sz) (g := g) (l := 0) (m + 1) s1 (fun z => h ((lev_0 _).mp z))
        rw [e] at K
        refine zT.step ct_X7_either5_ok ?_
        refine zT.step ct_X7_either5_ok ?_
        exact K σ1 τ1 v hS h3 (fun _ st => rfl)
      · have h := of_decide_eq_true (fb1 h)
        have h4 : s1.2 = false := ps_ok (by rw [h]; decide)
        have e := lp_yes (f := f) (sz := sz) (g := g) (l := 0) m s1 ((lev_0 _).mpr h)
        have ha := ps_a_le h3.2.1 (show ps_t f sz s1 ≠ -31 by rw [h]; decide) (by rw [h]; decide)
        have hgp := hP (ps_a f sz s1) ha.2.1
        have hcd : lx_t f sz s1.1 = z_wcd.getD 9 0 := by rw [← ps_tf h4]; exact h
        have nx := t_nextP (X := X) (d := d - 1) (r := r) (by omega) h3 h4 (by rw [hS.bytes, ← hf]; exact Or.inl ((tok_wd (by decide)).mp hcd).1)
        rw [hS.bytes, ← hf] at nx
        rw [e] at K
        refine zT.step ct_X7_either5_ok ?_
        refine zT.step ct_X7_either5_ok ?_
        refine And.intro ⟨by omega, by decide, _, rfl⟩ (zC.use nx (fun w L2 μ2 hw => ?_))
        obtain ⟨rfl, rfl, σ2, τ2, rfl, h5, h6⟩ := hw
        refine zT.step ct_X7_either5_ok ?_
        refine zT.step ct_X7_either5_ok ?_
        refine And.intro ⟨by omega, by decide, _, rfl⟩ (zC.use (call σ2 τ2 (ps_a f sz s1) (hS.trans h5) h4 h6) (fun w L2 μ2 hw => ?_))
        obtain ⟨rfl, σ3, τ3, v3, rfl, rfl, h7, h8, h9⟩ := hw
        have fin : ∀ x : Int32, x = f_jo (-11) v v3 → zT X d m_X7_either5 (zV σ r t sz 5 (pr_lv f sz 160 0 g s)) 0 0 44 [some (.ref 50), some (.int v), some (.int v3)] [.int x] L0 (mm σ3 τ3 r) := by
          intro x hx
          refine zT.step ct_X7_either5_ok ?_
          refine zT.step ct_X7_either5_ok ?_
          refine zT.drop 2 ?_
          refine ih σ3 τ3 (g (ps_a f sz s1)).1 x (by omega) h7 h8 (fun σ4 τ4 v4 k1 k2 k3 => K σ4 τ4 v4 k1 k2 (fun hb st => ?_))
          have h10 := lp_good (by decide) hb
          show exL (ev σ) ((g (ps_a f sz s1)).2 ++ ps_t f sz s1 :: (pr_lp f sz 0 g m (g (ps_a f sz s1)).1).2) (v :: st) = _
          rw [exL_app, h9 h10, h]
          show exL (ev σ) _ (f_jo (-11) v v3 :: st) = _
          rw [← hx]
          exact k3 hb st
        refine zT.step ct_X7_either5_ok ?_
        refine zT.step ct_X7_either5_ok ?_
        refine zT.step ct_X7_either5_ok ?_
        refine And.intro (fun z => ?_) (fun z => ?_)
        · have z : v = 0 := z
          refine zT.step ct_X7_either5_ok ?_
          refine zT.step ct_X7_either5_ok ?_
          refine And.intro (fun z2 => ?_) (fun z2 => ?_)
          · have z2 : v3 = 0 := z2
            refine zT.step ct_X7_either5_ok ?_
            exact fin 0 (by simp [f_jo, z, z2])
          · have z2 : ¬ v3 = 0 := z2
            refine zT.step ct_X7_either5_ok ?_
            refine zT.step ct_X7_either5_ok ?_
            exact fin 1 (by simp [f_jo, z2])
        · have z : ¬ v = 0 := z
          refine zT.step ct_X7_either5_ok ?_
          refine zT.step ct_X7_either5_ok ?_
          exact fin 1 (by simp [f_jo, z])
  refine zC.of mk_X7_either5 rfl ?_
  refine zT.step ct_X7_either5_ok ?_
  refine zT.step ct_X7_either5_ok ?_
  refine And.intro ⟨by omega, by decide, _, rfl⟩ (zC.use (call σ τ s SP.rf hs2 hR) (fun w L2 μ2 hw => ?_))
  obtain ⟨rfl, σ1, τ1, v, rfl, rfl, h1, h2, h3⟩ := hw
  refine zT.step ct_X7_either5_ok ?_
  refine lp 160 σ1 τ1 (g s).1 v (by omega) h1 h2 (fun σ2 τ2 v2 k1 k2 k3 => ⟨rfl, σ2, τ2, v2, rfl, rfl, k1, k2, fun hb st => ?_⟩)
  have h10 := lp_good (by decide) hb
  show exL (ev σ) ((g s).2 ++ (pr_lp f sz 0 g 160 (g s).1).2) st = _
  rw [exL_app, h3 h10]
  exact k3 hb st
