/-! the reference's count -/
def rP (c : Int32) : Nat → Int32
  | 0 => 0
  | h + 1 => rP c h + (c >>> (nI h &&& 31) &&& 1)
theorem pop_rP0 : ∀ b, b < 64 → ∀ l, l < 128 → f_pop (nI (128 * b + l)) = rP (nI (128 * b + l)) 13 := by decide +kernel
theorem pop_rP {c : Nat} (h : c < 8192) : f_pop (nI c) = rP (nI c) 13 := by
  have := pop_rP0 (c / 128) (by omega) (c % 128) (by omega)
  rw [show 128 * (c / 128) + c % 128 = c by omega] at this
  exact this
theorem t_count {X : zXs} {d n t m c : Nat} {a σ : zSg} {τ : Nat → Nat → Int64} {r : Option Nat} {x : Int32} (hd : 2 ≤ d) (hE : RE a σ n t m) (h2 : a 1 2 = nI n) (h3 : a 1 3 = nI m) (h4 : a 1 4 = nI t) (h6 : σ 50 6 = a 34 0) (hc : c < 8192) (h8 : a 1 6 = nI c) : zF X d m_X7_count [.ref 50, .int x] L0 (mm σ τ r) (some (.int (v_count a x))) (mm σ τ r) := by
  have r8 : σ 50 8 = nI c := hE.2.1.2.trans h8
  refine zF.of mk_X7_count rfl ?_
  refine zT.step ct_X7_count_ok ?_
  refine zT.step ct_X7_count_ok ?_
  refine zT.step ct_X7_count_ok ?_
  refine zT.step ct_X7_count_ok ?_
  refine zT.step ct_X7_count_ok ?_
  refine And.intro (by omega) (zF.use (t_inR (m := 4) (by decide) rfl) ?_)
  refine zT.step ct_X7_count_ok ?_
  refine And.intro (fun q => ?_) (fun q => ?_)
  · have q := fb0 q
    have hv : v_count a x = -2 := by
      unfold v_count
      rw [if_neg (fun z => by rw [z] at q; exact absurd q (by decide)), if_neg (fun z => by rw [z] at q; exact absurd q (by decide)), if_neg (fun z => by rw [z] at q; exact absurd q (by decide)), if_neg (fun z => by rw [z] at q; exact absurd q (by decide)), if_neg (fun z => by rw [z] at q; exact absurd q (by decide))]
    rw [hv]
    refine zT.step ct_X7_count_ok ?_
    refine zT.step ct_X7_count_ok ?_
    exact And.intro rfl (And.intro rfl rfl)
  have hx := fb1 q
  have lp : ∀ (m' h : Nat), h + m' = 13 → zT X d m_X7_count (fun w L2 μ2 => w = some (.int (v_count a x)) ∧ L2 = L0 ∧ μ2 = mm σ τ r) 0 0 19 [some (.ref 50), some (.int x), some (.int (rP (nI c) h)), some (.int (nI h))] [] L0 (mm σ τ r) := by
    intro m'
    induction m' with
    | zero =>
      intro h hh
      have hh : h = 13 := by omega
      subst hh
      refine zT.step ct_X7_count_ok ?_
      refine zT.step ct_X7_count_ok ?_
      refine zT.step ct_X7_count_ok ?_
      refine And.intro (fun _ => ?_) (fun q => absurd (by decide) q)
      refine zT.step ct_X7_count_ok ?_
      refine zT.step ct_X7_count_ok ?_
      unfold v_count
      refine And.intro (fun q => ?_) (fun q => ?_)
      · have q : x = 0 := q
        rw [if_pos q]
        refine zT.step ct_X7_count_ok ?_
        refine zT.step ct_X7_count_ok ?_
        refine And.intro ⟨by decide, _, rfl⟩ ?_
        refine zT.step ct_X7_count_ok ?_
        refine zT.step ct_X7_count_ok ?_
        exact And.intro (congrArg (fun v => some (Value.int v)) (hE.1.2.1.trans h2.symm)) (And.intro rfl rfl)
      have q : ¬ x = 0 := q
      rw [if_neg q]
      refine zT.step ct_X7_count_ok ?_
      refine zT.step ct_X7_count_ok ?_
      refine zT.step ct_X7_count_ok ?_
      refine And.intro (fun q1 => ?_) (fun q1 => ?_)
      · have q1 : x = 1 := q1
        rw [if_pos q1]
        refine zT.step ct_X7_count_ok ?_
        refine zT.step ct_X7_count_ok ?_
        refine zT.step ct_X7_count_ok ?_
        exact And.intro (by rw [h8, pop_rP hc]) (And.intro rfl rfl)
      have q1 : ¬ x = 1 := q1
      rw [if_neg q1]
      refine zT.step ct_X7_count_ok ?_
      refine zT.step ct_X7_count_ok ?_
      refine zT.step ct_X7_count_ok ?_
      refine And.intro (fun q2 => ?_) (fun q2 => ?_)
      · have q2 : x = 2 := q2
        rw [if_pos q2]
        refine zT.step ct_X7_count_ok ?_
        refine zT.step ct_X7_count_ok ?_
        refine And.intro ⟨by decide, _, rfl⟩ ?_
        refine zT.step ct_X7_count_ok ?_
        refine zT.step ct_X7_count_ok ?_
        exact And.intro (congrArg (fun v => some (Value.int v)) (hE.1.2.2.2.2.1.trans h3.symm)) (And.intro rfl rfl)
      have q2 : ¬ x = 2 := q2
      rw [if_neg q2]
      refine zT.step ct_X7_count_ok ?_
      refine zT.step ct_X7_count_ok ?_
      refine zT.step ct_X7_count_ok ?_
      refine And.intro (fun q3 => ?_) (fun q3 => ?_)
      · have q3 : x = 3 := q3
        rw [if_pos q3]
        refine zT.step ct_X7_count_ok ?_
        refine zT.step ct_X7_count_ok ?_
        refine And.intro ⟨by decide, _, rfl⟩ ?_
        refine zT.step ct_X7_count_ok ?_
        refine zT.step ct_X7_count_ok ?_
        exact And.intro (congrArg (fun v => some (Value.int v)) h6) (And.intro rfl rfl)
      have q3 : ¬ x = 3 := q3
      rw [if_neg q3]
      have q4 : x = 4 := by
        obtain ⟨i, hi, rfl⟩ := rg_t (by decide) hx
        have : i = 0 ∨ i = 1 ∨ i = 2 ∨ i = 3 ∨ i = 4 := by omega
        rcases this with rfl | rfl | rfl | rfl | rfl
        · exact absurd rfl q
        · exact absurd rfl q1
        · exact absurd rfl q2
        · exact absurd rfl q3
        · rfl
      rw [if_pos q4]
      refine zT.step ct_X7_count_ok ?_
      refine zT.step ct_X7_count_ok ?_
      refine And.intro ⟨by decide, _, rfl⟩ ?_
      refine zT.step ct_X7_count_ok ?_
      exact And.intro (congrArg (fun v => some (Value.int v)) (hE.1.2.2.2.2.2.trans h4.symm)) (And.intro rfl rfl)
    | succ m' ih =>
      intro h hh
      have nx := ih (h + 1) (by omega)
      refine zT.step ct_X7_count_ok ?_
      refine zT.step ct_X7_count_ok ?_
      refine zT.step ct_X7_count_ok ?_
      refine And.intro (fun q => absurd q (nI_ge (show h < 13 by omega) (by decide))) (fun _ => ?_)
      refine zT.step ct_X7_count_ok ?_
      refine zT.step ct_X7_count_ok ?_
      refine zT.step ct_X7_count_ok ?_
      refine And.intro ⟨by decide, _, rfl⟩ ?_
      refine zT.step ct_X7_count_ok ?_
      refine zT.step ct_X7_count_ok ?_
      refine zT.step ct_X7_count_ok ?_
      refine zT.step ct_X7_count_ok ?_
      refine zT.step ct_X7_count_ok ?_
      refine zT.step ct_X7_count_ok ?_
      refine zT.step ct_X7_count_ok ?_
      refine zT.step ct_X7_count_ok ?_
      rw [nI_1]
      show zT X d m_X7_count _ 0 0 19 [some (.ref 50), some (.int x), some (.int (rP (nI c) h + (σ 50 8 >>> (nI h &&& 31) &&& 1))), some (.int (nI (h + 1)))] [] L0 _
      rw [r8]
      exact nx
  refine zT.step ct_X7_count_ok ?_
  refine zT.step ct_X7_count_ok ?_
  refine zT.step ct_X7_count_ok ?_
  refine zT.step ct_X7_count_ok ?_
  exact lp 13 0 rfl
