/-! Sheet; Thing.read, write -/
theorem s_isMissing {X : zXs} {d a : Nat} {L : List zSh} {μ : zMem} (ha : a < 1000000 ∧ ∃ w, L[a]? = some (3, w)) : zF X d m_X3_isMissing [.ref a] L μ (some (.int (f_b (decide (μ.1 a 1 = -1))))) μ := by
  refine zF.of mk_X3_isMissing rfl ?_
  refine zT.step ct_X3_isMissing_ok ?_
  refine zT.step ct_X3_isMissing_ok ?_
  refine And.intro ha ?_
  refine zT.step ct_X3_isMissing_ok ?_
  refine zT.step ct_X3_isMissing_ok ?_
  refine And.intro (fun q => ?_) (fun q => ?_)
  · have q : μ.1 a 1 = -1 := q
    refine zT.step ct_X3_isMissing_ok ?_
    refine zT.step ct_X3_isMissing_ok ?_
    refine zT.step ct_X3_isMissing_ok ?_
    exact And.intro rfl (And.intro (by rw [f_b_t (decide_eq_true q)]) (And.intro rfl rfl))
  · have q : ¬ μ.1 a 1 = -1 := q
    refine zT.step ct_X3_isMissing_ok ?_
    refine zT.step ct_X3_isMissing_ok ?_
    exact And.intro rfl (And.intro (by rw [f_b_f (decide_eq_false q)]) (And.intro rfl rfl))
def f_holds (sz i n : Int32) : Bool := decide (¬ i < 0 ∧ ¬ n < 0 ∧ ¬ sz < i ∧ ¬ sz - i < n)
theorem s_holds {X : zXs} {d a : Nat} {L : List zSh} {μ : zMem} {i n : Int32} (ha : a < 1000000 ∧ ∃ w, L[a]? = some (3, w)) : zF X d m_X3_holds [.ref a, .int i, .int n] L μ (some (.int (f_b (f_holds (μ.1 a 2) i n)))) μ := by
  have no : f_holds (μ.1 a 2) i n = false → zT X d m_X3_holds (fun w L2 μ2 => w = some (.int (f_b (f_holds (μ.1 a 2) i n))) ∧ L2 = L ∧ μ2 = μ) 0 0 30 [some (.ref a), some (.int i), some (.int n)] [] L μ := by
    intro h
    refine zT.step ct_X3_holds_ok ?_
    refine zT.step ct_X3_holds_ok ?_
    exact And.intro rfl (And.intro (by rw [h]; rfl) (And.intro rfl rfl))
  refine zF.of mk_X3_holds rfl ?_
  refine zT.step ct_X3_holds_ok ?_
  refine zT.step ct_X3_holds_ok ?_
  refine And.intro (fun q => no (decide_eq_false fun z => z.1 q)) (fun q => ?_)
  refine zT.step ct_X3_holds_ok ?_
  refine zT.step ct_X3_holds_ok ?_
  refine And.intro (fun q2 => no (decide_eq_false fun z => z.2.1 q2)) (fun q2 => ?_)
  refine zT.step ct_X3_holds_ok ?_
  refine zT.step ct_X3_holds_ok ?_
  refine zT.step ct_X3_holds_ok ?_
  refine And.intro ha ?_
  refine zT.step ct_X3_holds_ok ?_
  refine And.intro (fun q3 => no (decide_eq_false fun z => z.2.2.1 q3)) (fun q3 => ?_)
  refine zT.step ct_X3_holds_ok ?_
  refine zT.step ct_X3_holds_ok ?_
  refine zT.step ct_X3_holds_ok ?_
  refine And.intro ha ?_
  refine zT.step ct_X3_holds_ok ?_
  refine zT.step ct_X3_holds_ok ?_
  refine zT.step ct_X3_holds_ok ?_
  refine And.intro (fun q4 => no (decide_eq_false fun z => z.2.2.2 q4)) (fun q4 => ?_)
  refine zT.step ct_X3_holds_ok ?_
  refine zT.step ct_X3_holds_ok ?_
  refine zT.step ct_X3_holds_ok ?_
  have h : f_holds (μ.1 a 2) i n = true := decide_eq_true ⟨q, q2, q3, q4⟩
  exact And.intro rfl (And.intro (by rw [h]; rfl) (And.intro rfl rfl))
theorem s_at {X : zXs} {d a b sz : Nat} {σ : zSg} {τ : Nat → Nat → Int64} {r : Option Nat} {x : Int32} (ha : a < 1000000 ∧ ∃ w, L0[a]? = some (3, w)) (hr : z_rho r a 0 = some b) (hb : b < 1000000 ∧ L0[b]? = some (10, 40)) (hsz : σ a 2 = nI sz) (hs : sz ≤ 40) : zF X d m_X3_at [.ref a, .int x] L0 (mm σ τ r) (some (.int (bif rg x sz then σ b x.toNatClampNeg else 0))) (mm σ τ r) := by
  have z0 : z_fv (mm σ τ r) a 3 0 = .ref b := by show z_rv (z_rho r a 0) = _; rw [hr]; rfl
  have no : rg x sz = false → zT X d m_X3_at (fun w L2 μ2 => w = some (.int (bif rg x sz then σ b x.toNatClampNeg else 0)) ∧ L2 = L0 ∧ μ2 = mm σ τ r) 0 0 21 [some (.ref a), some (.int x)] [] L0 (mm σ τ r) := by
    intro h
    refine zT.step ct_X3_at_ok ?_
    refine zT.step ct_X3_at_ok ?_
    exact And.intro (by rw [h]; rfl) (And.intro rfl rfl)
  refine zF.of mk_X3_at rfl ?_
  refine zT.step ct_X3_at_ok ?_
  refine zT.step ct_X3_at_ok ?_
  refine And.intro (fun q => no (rg_neg q)) (fun q => ?_)
  refine zT.step ct_X3_at_ok ?_
  refine zT.step ct_X3_at_ok ?_
  refine zT.step ct_X3_at_ok ?_
  refine And.intro ha ?_
  refine zT.step ct_X3_at_ok ?_
  refine And.intro (fun q2 => ?_) (fun q2 => ?_)
  · have q2 : σ a 2 ≤ x := q2
    rw [hsz] at q2
    exact no (rg_ge q2)
  · have q2 : ¬ σ a 2 ≤ x := q2
    rw [hsz] at q2
    have h : rg x sz = true := rg_in q (Int32.not_le.mp q2)
    obtain ⟨j, hj, rfl⟩ := rg_t (by omega) h
    refine zT.step ct_X3_at_ok ?_
    refine zT.step ct_X3_at_ok ?_
    refine And.intro ha ?_
    rw [z0]
    refine zT.step ct_X3_at_ok ?_
    refine zT.step ct_X3_at_ok ?_
    refine Exists.intro j (And.intro ⟨rfl, hb.1, 40, hb.2, by omega, by decide⟩ ?_)
    refine zT.step ct_X3_at_ok ?_
    refine zT.step ct_X3_at_ok ?_
    exact And.intro (by rw [h, nI_clamp (by omega)]; rfl) (And.intro rfl rfl)
def f_nar (so v : Int32) : Int32 := if so = 0 then v.toInt8.toInt32 else if so = 1 then v.toInt16.toInt32 else v
theorem s_write {X : zXs} {d a b sz j : Nat} {σ : zSg} {τ : Nat → Nat → Int64} {r : Option Nat} {v : Int32} (ha : a < 1000000 ∧ ∃ w, L0[a]? = some (3, w)) (hr : z_rho r a 0 = some b) (hb : b < 1000000 ∧ L0[b]? = some (10, 40)) (hsz : σ a 2 = nI sz) (hs : sz ≤ 40) (hj : j < sz) : zF X d m_X3_write [.ref a, .int (nI j), .int v] L0 (mm σ τ r) none (mm (z_up σ b j (f_nar (σ a 1) v)) τ r) := by
  have z0 : z_fv (mm σ τ r) a 3 0 = .ref b := by show z_rv (z_rho r a 0) = _; rw [hr]; rfl
  refine zF.of mk_X3_write rfl ?_
  refine zT.step ct_X3_write_ok ?_
  refine zT.step ct_X3_write_ok ?_
  refine And.intro (fun q => absurd q (nI_pos (by omega))) (fun q => ?_)
  refine zT.step ct_X3_write_ok ?_
  refine zT.step ct_X3_write_ok ?_
  refine zT.step ct_X3_write_ok ?_
  refine And.intro ha ?_
  refine zT.step ct_X3_write_ok ?_
  refine And.intro (fun q2 => ?_) (fun q2 => ?_)
  · refine zT.step ct_X3_write_ok ?_
    refine zT.step ct_X3_write_ok ?_
    refine And.intro ha ?_
    refine zT.step ct_X3_write_ok ?_
    refine And.intro (fun q3 => ?_) (fun q3 => ?_)
    · have q3 : σ a 1 = 0 := q3
      refine zT.step ct_X3_write_ok ?_
      refine zT.step ct_X3_write_ok ?_
      refine And.intro ha ?_
      rw [z0]
      refine zT.step ct_X3_write_ok ?_
      refine zT.step ct_X3_write_ok ?_
      refine zT.step ct_X3_write_ok ?_
      refine zT.step ct_X3_write_ok ?_
      refine Exists.intro j (And.intro ⟨rfl, hb.1, 40, hb.2, by omega, by decide⟩ ?_)
      refine zT.step ct_X3_write_ok ?_
      refine zT.step ct_X3_write_ok ?_
      exact And.intro rfl (And.intro rfl (by unfold f_nar; rw [if_pos q3]; rfl))
    · have q3 : ¬ σ a 1 = 0 := q3
      refine zT.step ct_X3_write_ok ?_
      refine zT.step ct_X3_write_ok ?_
      refine And.intro ha ?_
      refine zT.step ct_X3_write_ok ?_
      refine zT.step ct_X3_write_ok ?_
      refine And.intro (fun q4 => ?_) (fun q4 => ?_)
      · have q4 : σ a 1 = 1 := q4
        refine zT.step ct_X3_write_ok ?_
        refine zT.step ct_X3_write_ok ?_
        refine And.intro ha ?_
        rw [z0]
        refine zT.step ct_X3_write_ok ?_
        refine zT.step ct_X3_write_ok ?_
        refine zT.step ct_X3_write_ok ?_
        refine zT.step ct_X3_write_ok ?_
        refine Exists.intro j (And.intro ⟨rfl, hb.1, 40, hb.2, by omega, by decide⟩ ?_)
        refine zT.step ct_X3_write_ok ?_
        refine zT.step ct_X3_write_ok ?_
        exact And.intro rfl (And.intro rfl (by unfold f_nar; rw [if_neg q3, if_pos q4]; rfl))
      · have q4 : ¬ σ a 1 = 1 := q4
        refine zT.step ct_X3_write_ok ?_
        refine zT.step ct_X3_write_ok ?_
        refine And.intro ha ?_
        rw [z0]
        refine zT.step ct_X3_write_ok ?_
        refine zT.step ct_X3_write_ok ?_
        refine zT.step ct_X3_write_ok ?_
        refine Exists.intro j (And.intro ⟨rfl, hb.1, 40, hb.2, by omega, by decide⟩ ?_)
        refine zT.step ct_X3_write_ok ?_
        exact And.intro rfl (And.intro rfl (by unfold f_nar; rw [if_neg q3, if_neg q4]; rfl))
  · have q2 : ¬ nI j < σ a 2 := q2
    rw [hsz] at q2
    exact absurd ((nI_ltI (by omega) (by omega)).mpr hj) q2
def z_fl0 (f : Nat → Int32) (v : Int32) (n : Nat) : Nat → Int32 := fun j => if j < n then v else f j
theorem z_fl0_s (f : Nat → Int32) (v : Int32) (n : Nat) : upd (z_fl0 f v n) n v = z_fl0 f v (n + 1) := by
  funext j
  unfold upd z_fl0
  by_cases h : j = n
  · simp [h]
  · by_cases h2 : j < n
    · simp [h, h2, Nat.lt_succ_of_lt h2]
    · have : ¬ j < n + 1 := by omega
      simp [h, h2, this]
theorem s_fill {X : zXs} {d b N : Nat} {σ : zSg} {τ : Nat → Nat → Int64} {r : Option Nat} {v : Int32} (hb : b < 1000000 ∧ L0[b]? = some (10, N)) (hN : N ≤ 1000) : zF X d m_J7_fill_53178 [.ref b, .int v] L0 (mm σ τ r) none (mm (z_row σ b (z_fl0 (σ b) v N)) τ r) := by
  have lp : ∀ (m j : Nat), j + m = N → zT X d m_J7_fill_53178 (fun w L2 μ2 => w = none ∧ L2 = L0 ∧ μ2 = mm (z_row σ b (z_fl0 (σ b) v N)) τ r) 0 0 5 [some (.ref b), some (.int v), some (.int (nI j)), some (.int (Int32.ofNat N))] [] L0 (mm (z_row σ b (z_fl0 (σ b) v j)) τ r) := by
    intro m
    induction m with
    | zero =>
      intro j hj
      have hj : j = N := by omega
      subst hj
      refine zT.step ct_J7_fill_53178_ok ?_
      refine zT.step ct_J7_fill_53178_ok ?_
      refine zT.step ct_J7_fill_53178_ok ?_
      refine And.intro (fun q => ?_) (fun q => ?_)
      · refine zT.step ct_J7_fill_53178_ok ?_
        exact And.intro rfl (And.intro rfl rfl)
      · exact absurd ((i_le (x := Int32.ofNat j) (y := nI j) rfl rfl (by omega) (by omega)).mpr (Nat.le_refl _)) q
    | succ m ih =>
      intro j hj
      refine zT.step ct_J7_fill_53178_ok ?_
      refine zT.step ct_J7_fill_53178_ok ?_
      refine zT.step ct_J7_fill_53178_ok ?_
      refine And.intro (fun q => ?_) (fun q => ?_)
      · have := (i_le (x := Int32.ofNat N) (y := nI j) rfl rfl (by omega) (by omega)).mp q
        omega
      refine zT.step ct_J7_fill_53178_ok ?_
      refine zT.step ct_J7_fill_53178_ok ?_
      refine zT.step ct_J7_fill_53178_ok ?_
      refine zT.step ct_J7_fill_53178_ok ?_
      refine Exists.intro j (And.intro ⟨rfl, hb.1, N, hb.2, by omega, by omega⟩ ?_)
      refine zT.step ct_J7_fill_53178_ok ?_
      refine zT.step ct_J7_fill_53178_ok ?_
      rw [nI_1]
      refine zT.eqm ?_ (ih (j + 1) (by omega))
      rw [mm_sI, z_row_up, z_fl0_s]
  have e0 : z_row σ b (z_fl0 (σ b) v 0) = σ := by
    have : z_fl0 (σ b) v 0 = σ b := by funext j; unfold z_fl0; rw [if_neg (by omega)]
    rw [this, z_row_id]
  have lp0 := lp N 0 (by omega)
  rw [e0] at lp0
  refine zF.of mk_J7_fill_53178 rfl ?_
  refine zT.step ct_J7_fill_53178_ok ?_
  refine zT.step ct_J7_fill_53178_ok ?_
  refine zT.step ct_J7_fill_53178_ok ?_
  refine zT.step ct_J7_fill_53178_ok ?_
  show (match L0[b]? with | some (u, N) => _ | none => _)
  rw [hb.2]
  refine And.intro ⟨hb.1, rfl⟩ ?_
  refine zT.step ct_J7_fill_53178_ok ?_
  exact lp0
