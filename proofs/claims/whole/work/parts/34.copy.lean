/-! copy, things -/
def k_copy (σ : zSg) (x y o z c : Int32) : Int32 := bif rg x 4 && rg o 4 then (if σ (42 + 2 * x.toNatClampNeg) 1 = -1 ∨ σ (42 + 2 * o.toNatClampNeg) 1 = -1 then -11 else if σ (42 + 2 * x.toNatClampNeg) 1 = σ (42 + 2 * o.toNatClampNeg) 1 then (bif f_holds (σ (42 + 2 * x.toNatClampNeg) 2) y c && f_holds (σ (42 + 2 * o.toNatClampNeg) 2) z c then c else -12) else -13) else -2
def u_copy (σ : zSg) (x y o z c : Int32) : zSg := if 0 ≤ k_copy σ x y o z c then z_row σ (43 + 2 * o.toNatClampNeg) (va_cpy (σ (43 + 2 * x.toNatClampNeg)) (σ (43 + 2 * o.toNatClampNeg)) y.toNatClampNeg z.toNatClampNeg c.toNatClampNeg) else σ
theorem holds_n {sz : Nat} {y c : Int32} (hs : sz ≤ 40) (h : f_holds (nI sz) y c = true) : ∃ j m, j + m ≤ sz ∧ y = nI j ∧ c = nI m := by
  obtain ⟨h1, h2, h3, h4⟩ := of_decide_eq_true h
  obtain ⟨j, hj, rfl⟩ := nI_of (x := y) h1
  obtain ⟨m, hm, rfl⟩ := nI_of (x := c) h2
  rw [nI_ltI (by omega) hj] at h3
  rw [nI_sub (by omega), nI_ltI (by omega) hm] at h4
  exact ⟨j, m, by omega, rfl, rfl⟩
theorem s_copy {X : zXs} {d : Nat} {σ : zSg} {τ : Nat → Nat → Int64} {r : Option Nat} {x y o z c : Int32} (hd : 1 ≤ d) (hz : z_sz σ) : zF X d m_X6_copy [.ref 0, .int x, .int y, .int o, .int z, .int c] L0 (mm σ τ r) (some (.int (k_copy σ x y o z c))) (mm (u_copy σ x y o z c) τ r) := by
  have bad : (rg x 4 && rg o 4) = false → zT X d m_X6_copy (fun w L2 μ2 => w = some (.int (k_copy σ x y o z c)) ∧ L2 = L0 ∧ μ2 = mm (u_copy σ x y o z c) τ r) 0 0 16 [some (.ref 0), some (.int x), some (.int y), some (.int o), some (.int z), some (.int c), none, none] [] L0 (mm σ τ r) := by
    intro h
    have hk : k_copy σ x y o z c = -2 := by unfold k_copy; rw [h]; rfl
    refine zT.step ct_X6_copy_ok ?_
    refine zT.step ct_X6_copy_ok ?_
    exact And.intro (by rw [hk]) (And.intro rfl (by unfold u_copy; rw [hk, if_neg (by decide)]))
  refine zF.of mk_X6_copy rfl ?_
  refine zT.step ct_X6_copy_ok ?_
  refine zT.step ct_X6_copy_ok ?_
  refine zT.step ct_X6_copy_ok ?_
  refine And.intro ⟨by omega, by decide, _, rfl⟩ (zF.use s_isSheet ?_)
  refine zT.step ct_X6_copy_ok ?_
  refine And.intro (fun q => bad (by rw [fb0 q]; rfl)) (fun q => ?_)
  have hx := fb1 q
  refine zT.step ct_X6_copy_ok ?_
  refine zT.step ct_X6_copy_ok ?_
  refine zT.step ct_X6_copy_ok ?_
  refine And.intro ⟨by omega, by decide, _, rfl⟩ (zF.use s_isSheet ?_)
  refine zT.step ct_X6_copy_ok ?_
  refine And.intro (fun q => bad (by rw [fb0 q, hx]; rfl)) (fun q => ?_)
  have ho := fb1 q
  obtain ⟨s, hs, rfl⟩ := rg_t (by omega) hx
  obtain ⟨u, hu, rfl⟩ := rg_t (by omega) ho
  obtain ⟨sz, hsz, hse⟩ := hz s hs
  obtain ⟨uz, huz, hue⟩ := hz u hu
  have hk : k_copy σ (nI s) y (nI u) z c = (if σ (42 + 2 * s) 1 = -1 ∨ σ (42 + 2 * u) 1 = -1 then -11 else if σ (42 + 2 * s) 1 = σ (42 + 2 * u) 1 then (bif f_holds (nI sz) y c && f_holds (nI uz) z c then c else -12) else -13) := by
    unfold k_copy
    rw [hx, ho, nI_clamp (by omega), nI_clamp (by omega), hse, hue]
    rfl
  have out : ∀ v : Int32, v = -11 ∨ v = -12 ∨ v = -13 → k_copy σ (nI s) y (nI u) z c = v → u_copy σ (nI s) y (nI u) z c = σ := by
    intro v hv h
    unfold u_copy
    rw [h, if_neg]
    rcases hv with rfl | rfl | rfl <;> decide
  have mis : (σ (42 + 2 * s) 1 = -1 ∨ σ (42 + 2 * u) 1 = -1) → zT X d m_X6_copy (fun w L2 μ2 => w = some (.int (k_copy σ (nI s) y (nI u) z c)) ∧ L2 = L0 ∧ μ2 = mm (u_copy σ (nI s) y (nI u) z c) τ r) 0 0 51 [some (.ref 0), some (.int (nI s)), some (.int y), some (.int (nI u)), some (.int z), some (.int c), some (.ref (42 + 2 * s)), some (.ref (42 + 2 * u))] [] L0 (mm σ τ r) := by
    intro h
    rw [if_pos h] at hk
    refine zT.step ct_X6_copy_ok ?_
    refine zT.step ct_X6_copy_ok ?_
    exact And.intro (by rw [hk]) (And.intro rfl (by rw [out _ (Or.inl rfl) hk]))
  refine zT.step ct_X6_copy_ok ?_
  refine zT.step ct_X6_copy_ok ?_
  refine And.intro ⟨by decide, _, rfl⟩ ?_
  refine zT.step ct_X6_copy_ok ?_
  refine zT.step ct_X6_copy_ok ?_
  refine Exists.intro s (And.intro ⟨rfl, by decide, 4, rfl, hs, by decide⟩ ?_)
  refine zT.step ct_X6_copy_ok ?_
  refine zT.step ct_X6_copy_ok ?_
  refine zT.step ct_X6_copy_ok ?_
  refine And.intro ⟨by decide, _, rfl⟩ ?_
  refine zT.step ct_X6_copy_ok ?_
  refine zT.step ct_X6_copy_ok ?_
  refine Exists.intro u (And.intro ⟨rfl, by decide, 4, rfl, hu, by decide⟩ ?_)
  refine zT.step ct_X6_copy_ok ?_
  refine zT.step ct_X6_copy_ok ?_
  refine zT.step ct_X6_copy_ok ?_
  refine And.intro ⟨by omega, (L0_sheet hs).1⟩ (zF.use (s_isMissing (L0_sheet hs).1) ?_)
  refine zT.step ct_X6_copy_ok ?_
  refine And.intro (fun q => ?_) (fun q => mis (Or.inl (of_decide_eq_true (fb1 q))))
  have m1 : ¬ σ (42 + 2 * s) 1 = -1 := of_decide_eq_false (fb0 q)
  refine zT.step ct_X6_copy_ok ?_
  refine zT.step ct_X6_copy_ok ?_
  refine And.intro ⟨by omega, (L0_sheet hu).1⟩ (zF.use (s_isMissing (L0_sheet hu).1) ?_)
  refine zT.step ct_X6_copy_ok ?_
  refine And.intro (fun q => ?_) (fun q => mis (Or.inr (of_decide_eq_true (fb1 q))))
  have m2 : ¬ σ (42 + 2 * u) 1 = -1 := of_decide_eq_false (fb0 q)
  rw [if_neg (fun z => z.elim m1 m2)] at hk
  refine zT.step ct_X6_copy_ok ?_
  refine zT.step ct_X6_copy_ok ?_
  refine And.intro (L0_sheet hs).1 ?_
  refine zT.step ct_X6_copy_ok ?_
  refine zT.step ct_X6_copy_ok ?_
  refine And.intro (L0_sheet hu).1 ?_
  refine zT.step ct_X6_copy_ok ?_
  refine And.intro (fun q => ?_) (fun q => ?_)
  · have q : σ (42 + 2 * s) 1 = σ (42 + 2 * u) 1 := q
    rw [if_pos q] at hk
    have no : (f_holds (nI sz) y c && f_holds (nI uz) z c) = false → zT X d m_X6_copy (fun w L2 μ2 => w = some (.int (k_copy σ (nI s) y (nI u) z c)) ∧ L2 = L0 ∧ μ2 = mm (u_copy σ (nI s) y (nI u) z c) τ r) 0 0 93 [some (.ref 0), some (.int (nI s)), some (.int y), some (.int (nI u)), some (.int z), some (.int c), some (.ref (42 + 2 * s)), some (.ref (42 + 2 * u))] [] L0 (mm σ τ r) := by
      intro h
      rw [h] at hk
      have hk : k_copy σ (nI s) y (nI u) z c = -12 := hk
      refine zT.step ct_X6_copy_ok ?_
      refine zT.step ct_X6_copy_ok ?_
      exact And.intro (by rw [hk]) (And.intro rfl (by rw [out _ (Or.inr (Or.inl rfl)) hk]))
    refine zT.step ct_X6_copy_ok ?_
    refine zT.step ct_X6_copy_ok ?_
    refine zT.step ct_X6_copy_ok ?_
    refine zT.step ct_X6_copy_ok ?_
    refine And.intro ⟨by omega, (L0_sheet hs).1⟩ (zF.use (s_holds (L0_sheet hs).1) ?_)
    rw [mm_1, hse]
    refine zT.step ct_X6_copy_ok ?_
    refine And.intro (fun q => no (by rw [fb0 q]; rfl)) (fun q => ?_)
    have h1 := fb1 q
    refine zT.step ct_X6_copy_ok ?_
    refine zT.step ct_X6_copy_ok ?_
    refine zT.step ct_X6_copy_ok ?_
    refine zT.step ct_X6_copy_ok ?_
    refine And.intro ⟨by omega, (L0_sheet hu).1⟩ (zF.use (s_holds (L0_sheet hu).1) ?_)
    rw [mm_1, hue]
    refine zT.step ct_X6_copy_ok ?_
    refine And.intro (fun q => no (by rw [fb0 q, h1]; rfl)) (fun q => ?_)
    have h2 := fb1 q
    rw [h1, h2] at hk
    have hk : k_copy σ (nI s) y (nI u) z c = c := hk
    obtain ⟨j, m, hjm, rfl, rfl⟩ := holds_n hsz h1
    obtain ⟨j2, m2, hjm2, rfl, hm2⟩ := holds_n huz h2
    have hm2 : m = m2 := (nI_eq (by omega) (by omega)).mp hm2
    subst hm2
    have hu2 : u_copy σ (nI s) (nI j) (nI u) (nI j2) (nI m) = z_row σ (43 + 2 * u) (va_cpy (σ (43 + 2 * s)) (σ (43 + 2 * u)) j j2 m) := by
      unfold u_copy
      rw [hk, if_pos (nI_pos' (by omega)), nI_clamp (by omega), nI_clamp (by omega), nI_clamp (by omega), nI_clamp (by omega), nI_clamp (by omega)]
    have z0 : z_fv (mm σ τ r) (42 + 2 * s) 3 0 = .ref (43 + 2 * s) := by show z_rv (z_rho r (42 + 2 * s) 0) = _; rw [rho_sheet r hs]; rfl
    have z1 : z_fv (mm σ τ r) (42 + 2 * u) 3 0 = .ref (43 + 2 * u) := by show z_rv (z_rho r (42 + 2 * u) 0) = _; rw [rho_sheet r hu]; rfl
    refine zT.step ct_X6_copy_ok ?_
    refine zT.step ct_X6_copy_ok ?_
    refine And.intro (L0_sheet hs).1 ?_
    rw [z0]
    refine zT.step ct_X6_copy_ok ?_
    refine zT.step ct_X6_copy_ok ?_
    refine zT.step ct_X6_copy_ok ?_
    refine And.intro (L0_sheet hu).1 ?_
    rw [z1]
    refine zT.step ct_X6_copy_ok ?_
    refine zT.step ct_X6_copy_ok ?_
    refine zT.step ct_X6_copy_ok ?_
    refine And.intro ⟨by omega, ⟨show 43 + 2 * s < 1000000 by omega, show 43 + 2 * u < 1000000 by omega⟩, ⟨nI_pos (by omega), nI_pos (by omega), nI_pos (by omega)⟩, 40, 40, ⟨(L0_sheet hs).2, (L0_sheet hu).2⟩, ?_, ?_⟩ ?_
    · rw [nI_clamp (by omega), nI_clamp (by omega)]; omega
    · rw [nI_clamp (by omega), nI_clamp (by omega)]; omega
    refine zT.step ct_X6_copy_ok ?_
    refine zT.step ct_X6_copy_ok ?_
    refine And.intro (by rw [hk]) (And.intro rfl ?_)
    rw [hu2, nI_clamp (by omega), nI_clamp (by omega), nI_clamp (by omega)]
    rfl
  · have q : ¬ σ (42 + 2 * s) 1 = σ (42 + 2 * u) 1 := q
    rw [if_neg q] at hk
    refine zT.step ct_X6_copy_ok ?_
    refine zT.step ct_X6_copy_ok ?_
    exact And.intro (by rw [hk]) (And.intro rfl (by rw [out _ (Or.inr (Or.inr rfl)) hk]))
/-- things of a row f of sz numbers, three for each -/
def n_thing (n : Nat) (x y z : Int32) : Nat := bif k_thing x y z then (if n = 8 then n else n + 1) else n
def c_things (f : Nat → Int32) (sz : Nat) (fr : Int32) : Nat → Nat → zSg → Nat → Int32 → Int32 × zSg
  | 0, _, σ, _, came => (came, σ)
  | m + 1, k, σ, n, came => bif f_holds (nI sz) (fr + 3 * nI k) 3 then c_things f sz fr m (k + 1) (u_thing σ n (f (fr + 3 * nI k).toNatClampNeg) (f ((fr + 3 * nI k).toNatClampNeg + 1)) (f ((fr + 3 * nI k).toNatClampNeg + 2))) (n_thing n (f (fr + 3 * nI k).toNatClampNeg) (f ((fr + 3 * nI k).toNatClampNeg + 1)) (f ((fr + 3 * nI k).toNatClampNeg + 2))) (if v_thing n (f (fr + 3 * nI k).toNatClampNeg) (f ((fr + 3 * nI k).toNatClampNeg + 1)) (f ((fr + 3 * nI k).toNatClampNeg + 2)) < 0 then came else came + 1) else (-12, σ)
def v_things (σ : zSg) (n : Nat) (x y z c : Int32) : Int32 × zSg := bif rg x 4 && rg y 3 && rg c 9 then (if σ (42 + 2 * x.toNatClampNeg) 1 = -1 then (-11, σ) else if σ (42 + 2 * x.toNatClampNeg) 1 = y then c_things (σ (43 + 2 * x.toNatClampNeg)) (σ (42 + 2 * x.toNatClampNeg) 2).toNatClampNeg z c.toNatClampNeg 0 σ n 0 else (-13, σ)) else (-2, σ)
theorem u_come_o (σ : zSg) (n : Nat) (x y z : Int32) (c : Nat) (h1 : c ≠ 1) (h2 : c ≠ 8 + n) : u_come σ n x y z c = σ c := by
  unfold u_come
  rw [zu_n _ _ _ _ _ h1, zu_n _ _ _ _ _ h2, zu_n _ _ _ _ _ h2, zu_n _ _ _ _ _ h2, zu_n _ _ _ _ _ h2]
theorem u_thing_o (σ : zSg) (n : Nat) (hn : n ≤ 8) (x y z : Int32) (c : Nat) (h : 16 ≤ c) : u_thing σ n x y z c = σ c := by
  unfold u_thing
  cases k_thing x y z with
  | false => rfl
  | true =>
    show (if n = 8 then σ else u_come σ n x y z) c = σ c
    by_cases h8 : n = 8
    · rw [if_pos h8]
    · rw [if_neg h8, u_come_o _ _ _ _ _ _ (by omega) (by omega)]
theorem u_thing_m (σ : zSg) (n : Nat) (hn : n ≤ 8) (hm : σ 1 2 = nI n) (x y z : Int32) : n_thing n x y z ≤ 8 ∧ u_thing σ n x y z 1 2 = nI (n_thing n x y z) := by
  unfold u_thing n_thing
  cases k_thing x y z with
  | false => exact ⟨hn, hm⟩
  | true =>
    show (if n = 8 then n else n + 1) ≤ 8 ∧ (if n = 8 then σ else u_come σ n x y z) 1 2 = nI (if n = 8 then n else n + 1)
    by_cases h8 : n = 8
    · rw [if_pos h8, if_pos h8]
      exact ⟨hn, hm⟩
    · rw [if_neg h8, if_neg h8]
      exact ⟨by omega, by unfold u_come; rw [z_up_s]⟩
theorem s_atK {X : zXs} {d s sz j : Nat} {σ : zSg} {τ : Nat → Nat → Int64} {r : Option Nat} (hs : s < 4) (hse : σ (42 + 2 * s) 2 = nI sz) (hsz : sz ≤ 40) (hj : j < sz) : zF X d m_X3_at [.ref (42 + 2 * s), .int (nI j)] L0 (mm σ τ r) (some (.int (σ (43 + 2 * s) j))) (mm σ τ r) := by
  have h := s_at (X := X) (d := d) (τ := τ) (x := nI j) (L0_sheet hs).1 (rho_sheet r hs) ⟨by omega, (L0_sheet hs).2⟩ hse hsz
  rw [rg_i (by omega) hj, nI_clamp (by omega)] at h
  exact h
theorem s_atX {X : zXs} {d s sz j : Nat} {σ : zSg} {τ : Nat → Nat → Int64} {r : Option Nat} {x : Int32} (hx : x = nI j) (hs : s < 4) (hse : σ (42 + 2 * s) 2 = nI sz) (hsz : sz ≤ 40) (hj : j < sz) : zF X d m_X3_at [.ref (42 + 2 * s), .int x] L0 (mm σ τ r) (some (.int (σ (43 + 2 * s) j))) (mm σ τ r) := by
  subst hx
  exact s_atK hs hse hsz hj
theorem s_things {X : zXs} {d n t : Nat} {σ : zSg} {τ : Nat → Nat → Int64} {r : Option Nat} {x y z c : Int32} (hd : 2 ≤ d) (hK : CK σ n t) (hz : z_sz σ) : zF X d m_X6_things [.ref 0, .int x, .int y, .int z, .int c] L0 (mm σ τ r) (some (.int (v_things σ n x y z c).1)) (mm (v_things σ n x y z c).2 τ r) := by
  have bad : (rg x 4 && rg y 3 && rg c 9) = false → zT X d m_X6_things (fun w L2 μ2 => w = some (.int (v_things σ n x y z c).1) ∧ L2 = L0 ∧ μ2 = mm (v_things σ n x y z c).2 τ r) 0 0 29 [some (.ref 0), some (.int x), some (.int y), some (.int z), some (.int c), none, none, none, none] [] L0 (mm σ τ r) := by
    intro h
    have hk : v_things σ n x y z c = (-2, σ) := by unfold v_things; rw [h]; rfl
    rw [hk]
    refine zT.step ct_X6_things_ok ?_
    refine zT.step ct_X6_things_ok ?_
    exact And.intro rfl (And.intro rfl rfl)
  refine zF.of mk_X6_things rfl ?_
  refine zT.step ct_X6_things_ok ?_
  refine zT.step ct_X6_things_ok ?_
  refine zT.step ct_X6_things_ok ?_
  refine And.intro ⟨by omega, by decide, _, rfl⟩ (zF.use s_isSheet ?_)
  refine zT.step ct_X6_things_ok ?_
  refine And.intro (fun q => bad (by rw [fb0 q]; rfl)) (fun q => ?_)
  have hx := fb1 q
  refine zT.step ct_X6_things_ok ?_
  refine zT.step ct_X6_things_ok ?_
  refine And.intro (fun q => bad (by rw [hx, rg_neg q]; rfl)) (fun q1 => ?_)
  refine zT.step ct_X6_things_ok ?_
  refine zT.step ct_X6_things_ok ?_
  refine zT.step ct_X6_things_ok ?_
  refine And.intro (fun q => bad (by rw [hx, rg_ge (Int32.not_lt.mp (fun w => absurd q (Int32.not_lt.mpr ((le_lt (m := 2) (by omega)).mpr w))))]; rfl)) (fun q2 => ?_)
  have hy : rg y 3 = true := rg_in q1 ((le_lt (m := 2) (by omega)).mp (Int32.not_lt.mp q2))
  refine zT.step ct_X6_things_ok ?_
  refine zT.step ct_X6_things_ok ?_
  refine And.intro (fun q => bad (by rw [hx, hy, rg_neg q]; rfl)) (fun q3 => ?_)
  refine zT.step ct_X6_things_ok ?_
  refine zT.step ct_X6_things_ok ?_
  refine zT.step ct_X6_things_ok ?_
  refine And.intro (fun q4 => ?_) (fun q => bad (by rw [hx, hy, rg_ge (Int32.not_lt.mp (fun w => q ((le_lt (m := 8) (by omega)).mpr w)))]; rfl))
  have hc : rg c 9 = true := rg_in q3 ((le_lt (m := 8) (by omega)).mp q4)
  obtain ⟨s, hs, rfl⟩ := rg_t (by omega) hx
  obtain ⟨e, he, rfl⟩ := rg_t (by omega) hc
  obtain ⟨sz, hsz, hse⟩ := hz s hs
  have hv : v_things σ n (nI s) y z (nI e) = if σ (42 + 2 * s) 1 = -1 then (-11, σ) else if σ (42 + 2 * s) 1 = y then c_things (σ (43 + 2 * s)) sz z e 0 σ n 0 else (-13, σ) := by
    unfold v_things
    rw [hx, hy, hc, nI_clamp (by omega), nI_clamp (by omega), hse, nI_clamp (by omega)]
    rfl
  generalize hR : v_things σ n (nI s) y z (nI e) = R at hv ⊢
  have lp : ∀ (m k : Nat) (σ1 : zSg) (n1 : Nat) (came : Int32) (o8 : Option Value), k + m = e → (∀ c, 16 ≤ c → σ1 c = σ c) → n1 ≤ 8 → σ1 1 2 = nI n1 → c_things (σ (43 + 2 * s)) sz z m k σ1 n1 came = R → zT X d m_X6_things (fun w L2 μ2 => w = some (.int R.1) ∧ L2 = L0 ∧ μ2 = mm R.2 τ r) 0 0 69 [some (.ref 0), some (.int (nI s)), some (.int y), some (.int z), some (.int (nI e)), some (.ref (42 + 2 * s)), some (.int came), some (.int (nI k)), none] [] L0 (mm σ1 τ r) := by
    intro m
    induction m with
    | zero =>
      intro k σ1 n1 came o8 hk ho hn1 hm1 hR
      have hR : (came, σ1) = R := hR
      subst hR
      have hk : k = e := by omega
      subst hk
      refine zT.step ct_X6_things_ok ?_
      refine zT.step ct_X6_things_ok ?_
      refine zT.step ct_X6_things_ok ?_
      refine And.intro (fun q => ?_) (fun q => absurd (Int32.le_refl (nI k)) q)
      refine zT.step ct_X6_things_ok ?_
      refine zT.step ct_X6_things_ok ?_
      exact And.intro rfl (And.intro rfl rfl)
    | succ m ih =>
      intro k σ1 n1 came o8 hk ho hn1 hm1 hR
      have hse1 : σ1 (42 + 2 * s) 2 = nI sz := by rw [ho _ (by omega), hse]
      refine zT.step ct_X6_things_ok ?_
      refine zT.step ct_X6_things_ok ?_
      refine zT.step ct_X6_things_ok ?_
      refine And.intro (fun q => ?_) (fun q => ?_)
      · have := (nI_leI (by omega) (by omega)).mp q
        omega
      refine zT.step ct_X6_things_ok ?_
      refine zT.step ct_X6_things_ok ?_
      refine zT.step ct_X6_things_ok ?_
      refine zT.step ct_X6_things_ok ?_
      refine zT.step ct_X6_things_ok ?_
      refine zT.step ct_X6_things_ok ?_
      refine zT.step ct_X6_things_ok ?_
      refine zT.step ct_X6_things_ok ?_
      refine zT.step ct_X6_things_ok ?_
      refine zT.step ct_X6_things_ok ?_
      refine And.intro ⟨by omega, (L0_sheet hs).1⟩ (zF.use (s_holds (L0_sheet hs).1) ?_)
      rw [mm_1, hse1]
      show zT X d m_X6_things _ _ _ 92 _ [.int (f_b (f_holds (nI sz) (z + 3 * nI k) 3))] _ _
      refine zT.step ct_X6_things_ok ?_
      refine And.intro (fun q => ?_) (fun q => ?_)
      · have hf := fb0 q
        have e2 : (-12, σ1) = R := by
          rw [← hR]
          unfold c_things
          rw [hf]
          rfl
        refine zT.step ct_X6_things_ok ?_
        refine zT.step ct_X6_things_ok ?_
        exact And.intro (by rw [← e2]) (And.intro rfl (by rw [← e2]))
      · have hf := fb1 q
        have e2 : c_things (σ (43 + 2 * s)) sz z m (k + 1) (u_thing σ1 n1 ((σ (43 + 2 * s)) (z + 3 * nI k).toNatClampNeg) ((σ (43 + 2 * s)) ((z + 3 * nI k).toNatClampNeg + 1)) ((σ (43 + 2 * s)) ((z + 3 * nI k).toNatClampNeg + 2))) (n_thing n1 ((σ (43 + 2 * s)) (z + 3 * nI k).toNatClampNeg) ((σ (43 + 2 * s)) ((z + 3 * nI k).toNatClampNeg + 1)) ((σ (43 + 2 * s)) ((z + 3 * nI k).toNatClampNeg + 2))) (if v_thing n1 ((σ (43 + 2 * s)) (z + 3 * nI k).toNatClampNeg) ((σ (43 + 2 * s)) ((z + 3 * nI k).toNatClampNeg + 1)) ((σ (43 + 2 * s)) ((z + 3 * nI k).toNatClampNeg + 2)) < 0 then came else came + 1) = R := by
          rw [← hR]
          conv => rhs; unfold c_things
          rw [hf]
          rfl
        obtain ⟨p, m3, hpm, hp, hm3⟩ := holds_n hsz hf
        have hm3 : 3 = m3 := (i_eq (x := 3) (y := nI m3) (a := 3) rfl rfl (by omega) (by omega)).mp hm3
        subst hm3
        rw [hp, nI_clamp (by omega)] at e2
        have hr1 : σ1 (43 + 2 * s) = σ (43 + 2 * s) := ho _ (by omega)
        show zT X d m_X6_things _ _ _ 98 [some (.ref 0), some (.int (nI s)), some (.int y), some (.int z), some (.int (nI e)), some (.ref (42 + 2 * s)), some (.int came), some (.int (nI k)), some (.int (z + 3 * nI k))] [] _ _
        rw [hp]
        refine zT.step ct_X6_things_ok ?_
        refine zT.step ct_X6_things_ok ?_
        refine zT.step ct_X6_things_ok ?_
        refine zT.step ct_X6_things_ok ?_
        refine And.intro ⟨by omega, (L0_sheet hs).1⟩ (zF.use (s_atK hs hse1 hsz (by omega)) ?_)
        refine zT.step ct_X6_things_ok ?_
        refine zT.step ct_X6_things_ok ?_
        refine zT.step ct_X6_things_ok ?_
        refine zT.step ct_X6_things_ok ?_
        refine zT.step ct_X6_things_ok ?_
        refine And.intro ⟨by omega, (L0_sheet hs).1⟩ (zF.use (s_atX (nI_add p 1) hs hse1 hsz (by omega)) ?_)
        refine zT.step ct_X6_things_ok ?_
        refine zT.step ct_X6_things_ok ?_
        refine zT.step ct_X6_things_ok ?_
        refine zT.step ct_X6_things_ok ?_
        refine zT.step ct_X6_things_ok ?_
        refine And.intro ⟨by omega, (L0_sheet hs).1⟩ (zF.use (s_atX (nI_add p 2) hs hse1 hsz (by omega)) ?_)
        rw [hr1]
        refine zT.step ct_X6_things_ok ?_
        refine And.intro ⟨by omega, by decide, _, rfl⟩ (zF.use (s_thing (by omega) hn1 hm1) ?_)
        have nx := ih (k + 1) _ _ _ none (by omega) (fun c hc => by rw [u_thing_o _ _ hn1 _ _ _ _ hc]; exact ho c hc) (u_thing_m _ _ hn1 hm1 _ _ _).1 (u_thing_m _ _ hn1 hm1 _ _ _).2 e2
        refine zT.step ct_X6_things_ok ?_
        refine And.intro (fun q => ?_) (fun q => ?_)
        · rw [if_pos q] at nx
          refine zT.step ct_X6_things_ok ?_
          refine zT.step ct_X6_things_ok ?_
          rw [nI_1]
          refine zT.drop 8 ?_
          exact nx
        · rw [if_neg q] at nx
          refine zT.step ct_X6_things_ok ?_
          refine zT.step ct_X6_things_ok ?_
          refine zT.step ct_X6_things_ok ?_
          rw [nI_1]
          refine zT.drop 8 ?_
          exact nx
  refine zT.step ct_X6_things_ok ?_
  refine zT.step ct_X6_things_ok ?_
  refine And.intro ⟨by decide, _, rfl⟩ ?_
  refine zT.step ct_X6_things_ok ?_
  refine zT.step ct_X6_things_ok ?_
  refine Exists.intro s (And.intro ⟨rfl, by decide, 4, rfl, hs, by decide⟩ ?_)
  refine zT.step ct_X6_things_ok ?_
  refine zT.step ct_X6_things_ok ?_
  refine zT.step ct_X6_things_ok ?_
  refine And.intro ⟨by omega, (L0_sheet hs).1⟩ (zF.use (s_isMissing (L0_sheet hs).1) ?_)
  refine zT.step ct_X6_things_ok ?_
  refine And.intro (fun q => ?_) (fun q => ?_)
  · have m1 : ¬ σ (42 + 2 * s) 1 = -1 := of_decide_eq_false (fb0 q)
    rw [if_neg m1] at hv
    refine zT.step ct_X6_things_ok ?_
    refine zT.step ct_X6_things_ok ?_
    refine And.intro (L0_sheet hs).1 ?_
    refine zT.step ct_X6_things_ok ?_
    refine zT.step ct_X6_things_ok ?_
    refine And.intro (fun q => ?_) (fun q => ?_)
    · have q : σ (42 + 2 * s) 1 = y := q
      rw [if_pos q] at hv
      refine zT.step ct_X6_things_ok ?_
      refine zT.step ct_X6_things_ok ?_
      refine zT.step ct_X6_things_ok ?_
      refine zT.step ct_X6_things_ok ?_
      exact lp e 0 σ n 0 none (by omega) (fun _ _ => rfl) hK.1 hK.2.1 hv.symm
    · have q : ¬ σ (42 + 2 * s) 1 = y := q
      rw [if_neg q] at hv
      refine zT.step ct_X6_things_ok ?_
      refine zT.step ct_X6_things_ok ?_
      exact And.intro (by rw [hv]) (And.intro rfl (by rw [hv]))
  · have m1 : σ (42 + 2 * s) 1 = -1 := of_decide_eq_true (fb1 q)
    rw [if_pos m1] at hv
    refine zT.step ct_X6_things_ok ?_
    refine zT.step ct_X6_things_ok ?_
    exact And.intro (by rw [hv]) (And.intro rfl (by rw [hv]))
