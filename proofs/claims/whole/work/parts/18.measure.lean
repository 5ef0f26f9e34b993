/-! how long, how much: the pure words; Square.ruled, Square.measure -/
theorem zu_s (σ : zSg) (a k : Nat) (v : Int32) : z_up σ a k v a = upd (σ a) k v := by rw [z_up_a]; rfl
theorem zu_n (σ : zSg) (a k b : Nat) (v : Int32) (h : b ≠ a) : z_up σ a k v b = σ b := z_up_o σ a k b v h
theorem upd_upd (f : Nat → Int32) (i : Nat) (a b : Int32) : upd (upd f i a) i b = upd f i b := by
  funext j
  unfold upd
  by_cases h : j = i <;> simp [h]
theorem upd_at (f : Nat → Int32) (i : Nat) (a : Int32) : upd f i a i = a := if_pos rfl
theorem r_ag {vals vals' st : Nat → Int32} (hv : ∀ j, j < 6 → vals j = vals' j) : ∀ (m k : Nat) (f f' : Nat → Int32) (n : Nat), (∀ j, j < n → f j = f' j) → (r_run vals st m k (f, n)).2 = (r_run vals' st m k (f', n)).2 ∧ ∀ j, j < (r_run vals st m k (f, n)).2 → (r_run vals st m k (f, n)).1 j = (r_run vals' st m k (f', n)).1 j := by
  intro m
  induction m with
  | zero => intro k f f' n h; exact ⟨rfl, h⟩
  | succ m ih =>
    intro k f f' n h
    show (r_run vals st m (k + 1) (r_step vals (st k) (f, n))).2 = (r_run vals' st m (k + 1) (r_step vals' (st k) (f', n))).2 ∧ ∀ j, j < (r_run vals st m (k + 1) (r_step vals (st k) (f, n))).2 → (r_run vals st m (k + 1) (r_step vals (st k) (f, n))).1 j = (r_run vals' st m (k + 1) (r_step vals' (st k) (f', n))).1 j
    have hst : (r_step vals (st k) (f, n)).2 = (r_step vals' (st k) (f', n)).2 ∧ ∀ j, j < (r_step vals (st k) (f, n)).2 → (r_step vals (st k) (f, n)).1 j = (r_step vals' (st k) (f', n)).1 j := by
      unfold r_step
      by_cases h1 : st k < -6
      · simp only [if_pos h1]
        by_cases h2 : st k = -18 ∨ st k = -19
        · simp only [if_pos h2]
          by_cases h3 : 1 ≤ n
          · simp only [if_pos h3]
            refine ⟨trivial, fun j hj => ?_⟩
            unfold upd
            by_cases hjn : j = n - 1
            · simp [hjn, h (n - 1) (by omega)]
            · simp [hjn, h j hj]
          · simp only [if_neg h3]
            exact ⟨trivial, h⟩
        · simp only [if_neg h2]
          by_cases h3 : 2 ≤ n
          · simp only [if_pos h3]
            refine ⟨trivial, fun j hj => ?_⟩
            unfold upd
            by_cases hjn : j = n - 2
            · simp [hjn, h (n - 2) (by omega), h (n - 1) (by omega)]
            · simp [hjn, h j (by omega)]
          · simp only [if_neg h3]
            exact ⟨trivial, h⟩
      · simp only [if_neg h1]
        by_cases h3 : n < 160
        · simp only [if_pos h3]
          refine ⟨trivial, fun j hj => ?_⟩
          unfold upd
          by_cases hjn : j = n
          · simp only [if_pos hjn]
            by_cases h4 : st k < 0
            · simp only [if_pos h4]
              obtain ⟨x, hx, hxe⟩ := z_vix h1 h4
              rw [hxe, nI_clamp (by omega)]
              exact hv x hx
            · simp only [if_neg h4]
          · simp only [if_neg hjn]
            exact h j (by omega)
        · simp only [if_neg h3]
          exact ⟨trivial, h⟩
    generalize hp : r_step vals (st k) (f, n) = p at hst ⊢
    generalize hp' : r_step vals' (st k) (f', n) = p' at hst ⊢
    obtain ⟨g, x⟩ := p
    obtain ⟨g', x'⟩ := p'
    obtain ⟨e, hg⟩ := hst
    have e : x = x' := e
    subst e
    exact ih (k + 1) g g' x hg
theorem r_top_ag {vals vals' st : Nat → Int32} (hv : ∀ j, j < 6 → vals j = vals' j) (m k : Nat) (f f' : Nat → Int32) : r_top (r_run vals st m k (f, 0)) = r_top (r_run vals' st m k (f', 0)) := by
  obtain ⟨h1, h2⟩ := r_ag hv (st := st) m k f f' 0 (fun j h => absurd h (by omega))
  unfold r_top
  rw [← h1]
  by_cases h : 0 < (r_run vals st m k (f, 0)).2
  · rw [if_pos h, if_pos h, h2 0 h]
  · rw [if_neg h, if_neg h]
/-- text t of the class: its ends are numbers, its parts' values -/
def RW (σ : zSg) (t : Nat) : Prop := ∀ q, q < 3 → ∃ to, to ≤ 160 ∧ σ (18 + 3 * t) q = nI to
def tvE (e : Nat → Int32) (q : Nat) : Nat := if q = 0 then 0 else (e (q - 1)).toNatClampNeg
def tvR (steps ends : Nat → Int32) (q : Nat) (env : Nat → Int32) : Int32 := r_top (r_run env steps ((ends q).toNatClampNeg - tvE ends q) (tvE ends q) (fun _ => 0, 0))
def tvC (σ : zSg) (t q : Nat) (env : Nat → Int32) : Int32 := tvR (σ (17 + 3 * t)) (σ (18 + 3 * t)) q env
theorem s_ruled {X : zXs} {d t q : Nat} {σ : zSg} {τ : Nat → Nat → Int64} {r : Option Nat} {hi : Int32} (hd : 3 ≤ d) (ht : t < 6) (hr : σ 1 4 = nI t) (hW : RW σ t) (hq : q < 3) : zC X d 0 0 m_X4_ruled [.ref 1, .int (nI q), .int hi] L0 (mm σ τ r) (fun w L2 μ2 => w = some (.int (f_bnd (tvC σ t q (σ 6)) hi)) ∧ L2 = L0 ∧ ∃ f, μ2 = mm (z_row σ 7 f) τ r) := by
  obtain ⟨to, hto, hte⟩ := hW q hq
  obtain ⟨hLr, hLs, hLe⟩ := L0_rule ht
  obtain ⟨hs, he⟩ := rho_rule r ht
  have hfe : ∃ fn, fn ≤ 160 ∧ fn = tvE (σ (18 + 3 * t)) q ∧ ((q = 0 ∧ fn = 0) ∨ (0 < q ∧ σ (18 + 3 * t) (q - 1) = nI fn)) := by
    by_cases h0 : q = 0
    · exact ⟨0, by omega, by simp [tvE, h0], Or.inl ⟨h0, rfl⟩⟩
    · obtain ⟨fn, hfn, hfe⟩ := hW (q - 1) (by omega)
      exact ⟨fn, hfn, by simp [tvE, h0, hfe, nI_clamp (show fn < 2 ^ 31 by omega)], Or.inr ⟨by omega, hfe⟩⟩
  obtain ⟨fn, hfn, hfe, hfr⟩ := hfe
  have hv := s_value (X := X) (d := d - 1) (τ := τ) (by omega) hLr hs he ⟨by omega, hLs⟩ ⟨by omega, hLe⟩ (by omega) (by omega) hq hte hto hfr hfn
  refine zC.of mk_X4_ruled rfl ?_
  refine zT.step ct_X4_ruled_ok ?_
  refine zT.step ct_X4_ruled_ok ?_
  refine And.intro ⟨by decide, _, rfl⟩ ?_
  refine zT.step ct_X4_ruled_ok ?_
  refine zT.step ct_X4_ruled_ok ?_
  refine And.intro ⟨by decide, _, rfl⟩ ?_
  refine zT.step ct_X4_ruled_ok ?_
  refine Exists.intro t (And.intro ⟨hr, by decide, 6, rfl, ht, by decide⟩ ?_)
  refine zT.step ct_X4_ruled_ok ?_
  refine zT.step ct_X4_ruled_ok ?_
  refine zT.step ct_X4_ruled_ok ?_
  refine And.intro ⟨by decide, _, rfl⟩ ?_
  refine zT.step ct_X4_ruled_ok ?_
  refine zT.step ct_X4_ruled_ok ?_
  refine And.intro ⟨by decide, _, rfl⟩ ?_
  refine zT.step ct_X4_ruled_ok ?_
  refine And.intro ⟨by omega, hLr⟩ (zF.use hv ?_)
  refine zT.step ct_X4_ruled_ok ?_
  refine zT.step ct_X4_ruled_ok ?_
  refine And.intro (by omega) (zF.use (s_bounded (by omega)) ?_)
  refine zT.step ct_X4_ruled_ok ?_
  refine And.intro ?_ (And.intro rfl ⟨_, rfl⟩)
  have e : r_top (r_run (σ 6) (σ (17 + 3 * t)) (to - fn) fn (σ 7, 0)) = tvC σ t q (σ 6) := by
    unfold tvC tvR
    rw [hte, nI_clamp (by omega), ← hfe]
    exact r_top_ag (fun _ _ => rfl) _ _ _ _
  rw [e]
