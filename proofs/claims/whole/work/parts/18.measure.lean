/-! how long, how much: the pure words; Square.ruled, Square.measure -/
theorem zu_s (σ : zSg) (a k : Nat) (v : Int32) : z_up σ a k v a = upd (σ a) k v := by rw [z_up_a]; rfl
theorem zu_n (σ : zSg) (a k b : Nat) (v : Int32) (h : b ≠ a) : z_up σ a k v b = σ b := z_up_o σ a k b v h
theorem upd_upd (f : Nat → Int32) (i : Nat) (a b : Int32) : upd (upd f i a) i b = upd f i b := by
  funext j
  unfold upd
  by_cases h : j = i <;> simp [h]
theorem upd_at (f : Nat → Int32) (i : Nat) (a : Int32) : upd f i a i = a := if_pos rfl
theorem r_ag {vals vals' st : Nat → Int32} (hv : ∀ j, j < 6 → vals j = vals' j) : ∀ (m k : Nat) (f f' : Nat → Int32) (n : Nat), (∀ j, j < n → f j = f' j) → (r_run vals st m k (f, n)).2 = (r_run vals' st m k (f', n)).2 ∧ ∀ j, j < (r_run vals st m k (f, n)).2 → (r_run vals st m k (f, n)).1 j = (r_run vals' st m k (f', n)).1 j := by
  intro m
  induction m with
  | zero => intro k f f' n h; exact ⟨rfl, h⟩
  | succ m ih =>
    intro k f f' n h
    show (r_run vals st m (k + 1) (r_step vals (st k) (f, n))).2 = (r_run vals' st m (k + 1) (r_step vals' (st k) (f', n))).2 ∧ ∀ j, j < (r_run vals st m (k + 1) (r_step vals (st k) (f, n))).2 → (r_run vals st m (k + 1) (r_step vals (st k) (f, n))).1 j = (r_run vals' st m (k + 1) (r_step vals' (st k) (f', n))).1 j
    have hst : (r_step vals (st k) (f, n)).2 = (r_step vals' (st k) (f', n)).2 ∧ ∀ j, j < (r_step vals (st k) (f, n)).2 → (r_step vals (st k) (f, n)).1 j = (r_step vals' (st k) (f', n)).1 j := by
      unfold r_step
      by_cases h1 : st k < -6
      · simp only [if_pos h1]
        by_cases h2 : st k = -18 ∨ st k = -19
        · simp only [if_pos h2]
          by_cases h3 : 1 ≤ n
          · simp only [if_pos h3]
            refine ⟨trivial, fun j hj => ?_⟩
            unfold upd
            by_cases hjn : j = n - 1
            · simp [hjn, h (n - 1) (by omega)]
            · simp [hjn, h j hj]
          · simp only [if_neg h3]
            exact ⟨trivial, h⟩
        · simp only [if_neg h2]
          by_cases h3 : 2 ≤ n
          · simp only [if_pos h3]
            refine ⟨trivial, fun j hj => ?_⟩
            unfold upd
            by_cases hjn : j = n - 2
            · simp [hjn, h (n - 2) (by omega), h (n - 1) (by omega)]
            · simp [hjn, h j (by omega)]
          · simp only [if_neg h3]
            exact ⟨trivial, h⟩
      · simp only [if_neg h1]
        by_cases h3 : n < 160
        · simp only [if_pos h3]
          refine ⟨trivial, fun j hj => ?_⟩
          unfold upd
          by_cases hjn : j = n
          · simp only [if_pos hjn]
            by_cases h4 : st k < 0
            · simp only [if_pos h4]
              obtain ⟨x, hx, hxe⟩ := z_vix h1 h4
              rw [hxe, nI_clamp (by omega)]
              exact hv x hx
            · simp only [if_neg h4]
          · simp only [if_neg hjn]
            exact h j (by omega)
        · simp only [if_neg h3]
          exact ⟨trivial, h⟩
    generalize hp : r_step vals (st k) (f, n) = p at hst ⊢
    generalize hp' : r_step vals' (st k) (f', n) = p' at hst ⊢
    obtain ⟨g, x⟩ := p
    obtain ⟨g', x'⟩ := p'
    obtain ⟨e, hg⟩ := hst
    have e : x = x' := e
    subst e
    exact ih (k + 1) g g' x hg
theorem r_top_ag {vals vals' st : Nat → Int32} (hv : ∀ j, j < 6 → vals j = vals' j) (m k : Nat) (f f' : Nat → Int32) : r_top (r_run vals st m k (f, 0)) = r_top (r_run vals' st m k (f', 0)) := by
  obtain ⟨h1, h2⟩ := r_ag hv (st := st) m k f f' 0 (fun j h => absurd h (by omega))
  unfold r_top
  rw [← h1]
  by_cases h : 0 < (r_run vals st m k (f, 0)).2
  · rw [if_pos h, if_pos h, h2 0 h]
  · rw [if_neg h, if_neg h]
/-- text t of the class: its ends are numbers, its parts' values -/
def RW (σ : zSg) (t : Nat) : Prop := ∀ q, q < 3 → ∃ to, to ≤ 160 ∧ σ (18 + 3 * t) q = nI to
def tvE (e : Nat → Int32) (q : Nat) : Nat := if q = 0 then 0 else (e (q - 1)).toNatClampNeg
def tvR (steps ends : Nat → Int32) (q : Nat) (env : Nat → Int32) : Int32 := r_top (r_run env steps ((ends q).toNatClampNeg - tvE ends q) (tvE ends q) (fun _ => 0, 0))
def tvC (σ : zSg) (t q : Nat) (env : Nat → Int32) : Int32 := tvR (σ (17 + 3 * t)) (σ (18 + 3 * t)) q env
theorem s_ruled {X : zXs} {d t q : Nat} {σ : zSg} {τ : Nat → Nat → Int64} {r : Option Nat} {hi : Int32} (hd : 3 ≤ d) (ht : t < 6) (hr : σ 1 4 = nI t) (hW : RW σ t) (hq : q < 3) : zC X d 0 0 m_X4_ruled [.ref 1, .int (nI q), .int hi] L0 (mm σ τ r) (fun w L2 μ2 => w = some (.int (f_bnd (tvC σ t q (σ 6)) hi)) ∧ L2 = L0 ∧ ∃ f, μ2 = mm (z_row σ 7 f) τ r) := by
  obtain ⟨to, hto, hte⟩ := hW q hq
  obtain ⟨hLr, hLs, hLe⟩ := L0_rule ht
  obtain ⟨hs, he⟩ := rho_rule r ht
  have hfe : ∃ fn, fn ≤ 160 ∧ fn = tvE (σ (18 + 3 * t)) q ∧ ((q = 0 ∧ fn = 0) ∨ (0 < q ∧ σ (18 + 3 * t) (q - 1) = nI fn)) := by
    by_cases h0 : q = 0
    · exact ⟨0, by omega, by simp [tvE, h0], Or.inl ⟨h0, rfl⟩⟩
    · obtain ⟨fn, hfn, hfe⟩ := hW (q - 1) (by omega)
      exact ⟨fn, hfn, by simp [tvE, h0, hfe, nI_clamp (show fn < 2 ^ 31 by omega)], Or.inr ⟨by omega, hfe⟩⟩
  obtain ⟨fn, hfn, hfe, hfr⟩ := hfe
  have hv := s_value (X := X) (d := d - 1) (τ := τ) (by omega) hLr hs he ⟨by omega, hLs⟩ ⟨by omega, hLe⟩ (by omega) (by omega) hq hte hto hfr hfn
  refine zC.of mk_X4_ruled rfl ?_
  refine zT.step ct_X4_ruled_ok ?_
  refine zT.step ct_X4_ruled_ok ?_
  refine And.intro ⟨by decide, _, rfl⟩ ?_
  refine zT.step ct_X4_ruled_ok ?_
  refine zT.step ct_X4_ruled_ok ?_
  refine And.intro ⟨by decide, _, rfl⟩ ?_
  refine zT.step ct_X4_ruled_ok ?_
  refine Exists.intro t (And.intro ⟨hr, by decide, 6, rfl, ht, by decide⟩ ?_)
  refine zT.step ct_X4_ruled_ok ?_
  refine zT.step ct_X4_ruled_ok ?_
  refine zT.step ct_X4_ruled_ok ?_
  refine And.intro ⟨by decide, _, rfl⟩ ?_
  refine zT.step ct_X4_ruled_ok ?_
  refine zT.step ct_X4_ruled_ok ?_
  refine And.intro ⟨by decide, _, rfl⟩ ?_
  refine zT.step ct_X4_ruled_ok ?_
  refine And.intro ⟨by omega, hLr⟩ (zF.use hv ?_)
  refine zT.step ct_X4_ruled_ok ?_
  refine zT.step ct_X4_ruled_ok ?_
  refine And.intro (by omega) (zF.use (s_bounded (by omega)) ?_)
  refine zT.step ct_X4_ruled_ok ?_
  refine And.intro ?_ (And.intro rfl ⟨_, rfl⟩)
  have e : r_top (r_run (σ 6) (σ (17 + 3 * t)) (to - fn) fn (σ 7, 0)) = tvC σ t q (σ 6) := by
    unfold tvC tvR
    rw [hte, nI_clamp (by omega), ← hfe]
    exact r_top_ag (fun _ _ => rfl) _ _ _ _
  rw [e]
theorem zT.abs {X : zXs} {d : Nat} {M : zMD} {Q : zRQ} {k n pc : Nat} {ls : zLs} {st : List Value} {L : List zSh} {μ : zMem} {τ : Nat → Nat → Int64} {r : Option Nat} (hμ : μ.2 = (τ, z_rho r)) (h : ∀ σ1 : zSg, σ1 = μ.1 → zT X d M Q k n pc ls st L (mm σ1 τ r)) : zT X d M Q k n pc ls st L μ := by
  have e : μ = mm μ.1 τ r := Prod.ext rfl hμ
  rw [e]
  exact h _ rfl
theorem sI_1 (μ : zMem) (a k : Nat) (v : Int32) : (z_sI μ a k v).1 = z_up μ.1 a k v := rfl
theorem mm_1 (σ : zSg) (τ : Nat → Nat → Int64) (r : Option Nat) : (mm σ τ r).1 = σ := rfl
def g_dull (c : Int32) (h : Nat) : Bool := decide (h = 6) || decide (c >>> (nI h &&& 31) &&& 1 = 1)
def g_env (th : Nat → Int32) (day : Int32) (h : Nat) (lg : Int32) : Nat → Int32 := fun j => bif Nat.beq j 0 then nI h else bif Nat.beq j 1 then th 2 else bif Nat.beq j 2 then th 1 else bif Nat.beq j 3 then lg else bif Nat.beq j 4 then day else th 3
def g_mx (x : Int32) : Int32 := if 0 < x then x else 0
/-- how LONG, how much is DUE of one that isn't hidden; th: its kind, number, height, cell -/
def g_lg (th : Nat → Int32) (day : Int32) (tv : Nat → (Nat → Int32) → Int32) (h : Nat) : Int32 := f_reach (th 0) (th 1) (th 2) (f_bnd (tv 0 (g_env th day h 0)) 40)
def g_dl (th : Nat → Int32) (day : Int32) (tv : Nat → (Nat → Int32) → Int32) (h : Nat) (lg : Int32) : Int32 := g_mx (f_owed (th 0) (th 1) lg (f_bnd (tv 1 (g_env th day h lg)) 40) - f_bnd (tv 2 (g_env th day h lg)) 99)
def g_L (c : Int32) (th : Nat → Int32) (day : Int32) (tv : Nat → (Nat → Int32) → Int32) (h : Nat) : Int32 := bif g_dull c h then 0 else g_lg th day tv h
def g_D (c : Int32) (th : Nat → Int32) (day : Int32) (tv : Nat → (Nat → Int32) → Int32) (h : Nat) : Int32 := bif g_dull c h then 0 else g_dl th day tv h (g_lg th day tv h)
theorem tvR_env {steps ends : Nat → Int32} {q : Nat} {e e' : Nat → Int32} (h : ∀ j, j < 6 → e j = e' j) : tvR steps ends q e = tvR steps ends q e' := r_top_ag h _ _ _ _
theorem s_measure {X : zXs} {d t i h : Nat} {σ : zSg} {τ : Nat → Nat → Int64} {r : Option Nat} (hd : 4 ≤ d) (hi : i < 8) (hh : h < 13) (ht : t < 6) (hr : σ 1 4 = nI t) (hW : RW σ t) : zC X d 0 0 m_X4_measure [.ref 1, .int (nI i), .int (nI h)] L0 (mm σ τ r) (fun w L2 μ2 => w = none ∧ L2 = L0 ∧ ∃ σ' : zSg, μ2 = mm σ' τ r ∧ (∀ b, b ≠ 4 → b ≠ 5 → b ≠ 6 → b ≠ 7 → σ' b = σ b) ∧ σ' 4 = upd (σ 4) i (g_L (σ 1 6) (σ (8 + i)) (σ 1 5) (tvC σ t) h) ∧ σ' 5 = upd (σ 5) i (g_D (σ 1 6) (σ (8 + i)) (σ 1 5) (tvC σ t) h)) := by
  have dull : g_dull (σ 1 6) h = true → zT X d m_X4_measure (fun w L2 μ2 => w = none ∧ L2 = L0 ∧ ∃ σ' : zSg, μ2 = mm σ' τ r ∧ (∀ b, b ≠ 4 → b ≠ 5 → b ≠ 6 → b ≠ 7 → σ' b = σ b) ∧ σ' 4 = upd (σ 4) i (g_L (σ 1 6) (σ (8 + i)) (σ 1 5) (tvC σ t) h) ∧ σ' 5 = upd (σ 5) i (g_D (σ 1 6) (σ (8 + i)) (σ 1 5) (tvC σ t) h)) 0 0 32 [some (.ref 1), some (.int (nI i)), some (.int (nI h)), none, none] [] L0 (mm (z_up (z_up σ 4 i 0) 5 i 0) τ r) := by
    intro hdl
    refine zT.step ct_X4_measure_ok ?_
    refine And.intro rfl (And.intro rfl ⟨_, rfl, fun b h4 h5 _ _ => ?_, ?_, ?_⟩)
    · rw [zu_n _ _ _ _ _ h5, zu_n _ _ _ _ _ h4]
    · rw [zu_n _ _ _ _ _ (by decide), zu_s]
      unfold g_L
      rw [hdl]
      rfl
    · rw [zu_s, zu_n _ _ _ _ _ (by decide)]
      unfold g_D
      rw [hdl]
      rfl
  refine zC.of mk_X4_measure rfl ?_
  refine zT.step ct_X4_measure_ok ?_
  refine zT.step ct_X4_measure_ok ?_
  refine And.intro ⟨by decide, _, rfl⟩ ?_
  refine zT.step ct_X4_measure_ok ?_
  refine zT.step ct_X4_measure_ok ?_
  refine zT.step ct_X4_measure_ok ?_
  refine Exists.intro i (And.intro ⟨rfl, by decide, 8, rfl, hi, by decide⟩ ?_)
  refine zT.step ct_X4_measure_ok ?_
  refine zT.step ct_X4_measure_ok ?_
  refine And.intro ⟨by decide, _, rfl⟩ ?_
  refine zT.step ct_X4_measure_ok ?_
  refine zT.step ct_X4_measure_ok ?_
  refine zT.step ct_X4_measure_ok ?_
  refine Exists.intro i (And.intro ⟨rfl, by decide, 8, rfl, hi, by decide⟩ ?_)
  refine zT.step ct_X4_measure_ok ?_
  refine zT.step ct_X4_measure_ok ?_
  refine zT.step ct_X4_measure_ok ?_
  refine And.intro (fun h1 => ?_) (fun h1 => ?_)
  · have h1 : nI h = 6 := h1
    exact dull (by unfold g_dull; rw [decide_eq_true ((i_eq (x := nI h) (y := 6) (b := 6) rfl rfl (by omega) (by omega)).mp h1)]; rfl)
  have h1 : ¬ nI h = 6 := h1
  have h1 : ¬ h = 6 := fun q => h1 (by rw [q]; rfl)
  refine zT.step ct_X4_measure_ok ?_
  refine zT.step ct_X4_measure_ok ?_
  refine And.intro ⟨by decide, _, rfl⟩ ?_
  refine zT.step ct_X4_measure_ok ?_
  refine zT.step ct_X4_measure_ok ?_
  refine zT.step ct_X4_measure_ok ?_
  refine zT.step ct_X4_measure_ok ?_
  refine zT.step ct_X4_measure_ok ?_
  refine zT.step ct_X4_measure_ok ?_
  refine And.intro (fun h2 => ?_) (fun h2 => ?_)
  · have h2 : σ 1 6 >>> (nI h &&& 31) &&& 1 = 1 := h2
    exact dull (by unfold g_dull; rw [decide_eq_true h2, Bool.or_true])
  have h2 : ¬ σ 1 6 >>> (nI h &&& 31) &&& 1 = 1 := h2
  have hdl : g_dull (σ 1 6) h = false := by unfold g_dull; rw [decide_eq_false h1, decide_eq_false h2]; rfl
  refine zT.step ct_X4_measure_ok ?_
  refine zT.step ct_X4_measure_ok ?_
  refine And.intro ⟨by decide, _, rfl⟩ ?_
  refine zT.step ct_X4_measure_ok ?_
  refine zT.step ct_X4_measure_ok ?_
  refine Exists.intro i (And.intro ⟨rfl, by decide, 8, rfl, hi, by decide⟩ ?_)
  refine zT.step ct_X4_measure_ok ?_
  refine zT.step ct_X4_measure_ok ?_
  refine zT.step ct_X4_measure_ok ?_
  refine And.intro ⟨by decide, _, rfl⟩ ?_
  refine zT.step ct_X4_measure_ok ?_
  refine zT.step ct_X4_measure_ok ?_
  refine zT.step ct_X4_measure_ok ?_
  refine Exists.intro 0 (And.intro ⟨rfl, by decide, 6, rfl, by decide, by decide⟩ ?_)
  refine zT.step ct_X4_measure_ok ?_
  refine zT.step ct_X4_measure_ok ?_
  refine And.intro (by first | exact ⟨by decide, _, rfl⟩ | exact L0_thing hi) ?_
  refine zT.step ct_X4_measure_ok ?_
  refine zT.step ct_X4_measure_ok ?_
  refine zT.step ct_X4_measure_ok ?_
  refine And.intro (by first | exact ⟨by decide, _, rfl⟩ | exact L0_thing hi) ?_
  refine zT.step ct_X4_measure_ok ?_
  refine Exists.intro 1 (And.intro ⟨rfl, by decide, 6, rfl, by decide, by decide⟩ ?_)
  refine zT.step ct_X4_measure_ok ?_
  refine zT.step ct_X4_measure_ok ?_
  refine And.intro (by first | exact ⟨by decide, _, rfl⟩ | exact L0_thing hi) ?_
  refine zT.step ct_X4_measure_ok ?_
  refine zT.step ct_X4_measure_ok ?_
  refine zT.step ct_X4_measure_ok ?_
  refine And.intro (by first | exact ⟨by decide, _, rfl⟩ | exact L0_thing hi) ?_
  refine zT.step ct_X4_measure_ok ?_
  refine Exists.intro 2 (And.intro ⟨rfl, by decide, 6, rfl, by decide, by decide⟩ ?_)
  refine zT.step ct_X4_measure_ok ?_
  refine zT.step ct_X4_measure_ok ?_
  refine And.intro ⟨by decide, _, rfl⟩ ?_
  refine zT.step ct_X4_measure_ok ?_
  refine zT.step ct_X4_measure_ok ?_
  refine zT.step ct_X4_measure_ok ?_
  refine Exists.intro 3 (And.intro ⟨rfl, by decide, 6, rfl, by decide, by decide⟩ ?_)
  refine zT.step ct_X4_measure_ok ?_
  refine zT.step ct_X4_measure_ok ?_
  refine And.intro ⟨by decide, _, rfl⟩ ?_
  refine zT.step ct_X4_measure_ok ?_
  refine zT.step ct_X4_measure_ok ?_
  refine zT.step ct_X4_measure_ok ?_
  refine And.intro ⟨by decide, _, rfl⟩ ?_
  refine zT.step ct_X4_measure_ok ?_
  refine Exists.intro 4 (And.intro ⟨rfl, by decide, 6, rfl, by decide, by decide⟩ ?_)
  refine zT.step ct_X4_measure_ok ?_
  refine zT.step ct_X4_measure_ok ?_
  refine And.intro (by first | exact ⟨by decide, _, rfl⟩ | exact L0_thing hi) ?_
  refine zT.step ct_X4_measure_ok ?_
  refine zT.step ct_X4_measure_ok ?_
  refine zT.step ct_X4_measure_ok ?_
  refine And.intro (by first | exact ⟨by decide, _, rfl⟩ | exact L0_thing hi) ?_
  refine zT.step ct_X4_measure_ok ?_
  refine Exists.intro 5 (And.intro ⟨rfl, by decide, 6, rfl, by decide, by decide⟩ ?_)
  refine zT.abs (τ := τ) (r := r) rfl fun σ1 e1 => ?_
  have o1 : ∀ b, b ≠ 4 → b ≠ 5 → b ≠ 6 → σ1 b = σ b := fun b h4 h5 h6 => by
    rw [e1]
    simp only [sI_1, mm_1, zu_n _ _ _ _ _ h4, zu_n _ _ _ _ _ h5, zu_n _ _ _ _ _ h6]
  have t4 : ∀ (s : zSg) k v, z_up s 4 k v (8 + i) = s (8 + i) := fun s k v => zu_n _ _ _ _ _ (by omega)
  have t5 : ∀ (s : zSg) k v, z_up s 5 k v (8 + i) = s (8 + i) := fun s k v => zu_n _ _ _ _ _ (by omega)
  have t6 : ∀ (s : zSg) k v, z_up s 6 k v (8 + i) = s (8 + i) := fun s k v => zu_n _ _ _ _ _ (by omega)
  have n4 : ∀ (s : zSg) k v b, b ≠ 4 → z_up s 4 k v b = s b := fun s k v b hb => zu_n _ _ _ _ _ hb
  have n5 : ∀ (s : zSg) k v b, b ≠ 5 → z_up s 5 k v b = s b := fun s k v b hb => zu_n _ _ _ _ _ hb
  have n6 : ∀ (s : zSg) k v b, b ≠ 6 → z_up s 6 k v b = s b := fun s k v b hb => zu_n _ _ _ _ _ hb
  have v1 : ∀ j, j < 6 → σ1 6 j = g_env (σ (8 + i)) (σ 1 5) h 0 j := fun j hj => by
    rw [e1]
    simp only [sI_1, mm_1, zu_s, z_fv, t4, t5, t6, n4 _ _ _ 1 (by decide), n5 _ _ _ 1 (by decide), n6 _ _ _ 1 (by decide)]
    match j, hj with
    | 0, _ => rfl
    | 1, _ => rfl
    | 2, _ => rfl
    | 3, _ => rfl
    | 4, _ => rfl
    | 5, _ => rfl
  have l1 : σ1 4 = upd (σ 4) i 0 := by
    rw [e1]
    simp only [sI_1, mm_1, zu_s, n5 _ _ _ 4 (by decide), n6 _ _ _ 4 (by decide)]
  have d1 : σ1 5 = upd (σ 5) i 0 := by
    rw [e1]
    simp only [sI_1, mm_1, zu_s, n4 _ _ _ 5 (by decide), n6 _ _ _ 5 (by decide)]
  have W1 : RW σ1 t := fun q hq => by rw [o1 _ (by omega) (by omega) (by omega)]; exact hW q hq
  have c1 : ∀ q e, tvC σ1 t q e = tvC σ t q e := fun q e => by unfold tvC; rw [o1 _ (by omega) (by omega) (by omega), o1 _ (by omega) (by omega) (by omega)]
  clear e1
  generalize hlg : g_lg (σ (8 + i)) (σ 1 5) (tvC σ t) h = lg
  refine zT.step ct_X4_measure_ok ?_
  refine zT.step ct_X4_measure_ok ?_
  refine And.intro ⟨by decide, _, rfl⟩ ?_
  refine zT.step ct_X4_measure_ok ?_
  refine zT.step ct_X4_measure_ok ?_
  refine zT.step ct_X4_measure_ok ?_
  refine zT.step ct_X4_measure_ok ?_
  refine zT.step ct_X4_measure_ok ?_
  refine zT.step ct_X4_measure_ok ?_
  refine And.intro ⟨by omega, by decide, _, rfl⟩ (zC.use (s_ruled (t := t) (q := 0) (by omega) ht (by rw [o1 _ (by decide) (by decide) (by decide)]; exact hr) W1 (by decide)) (fun w L2 μ2 hw => ?_))
  obtain ⟨rfl, rfl, f1, rfl⟩ := hw
  refine zT.step ct_X4_measure_ok ?_
  refine And.intro ⟨by omega, L0_thing hi⟩ (zF.use (s_reach (by omega) (L0_thing hi)) ?_)
  show zT X d m_X4_measure _ 0 0 110 _ [.int (f_reach (z_row σ1 7 f1 (8 + i) 0) (z_row σ1 7 f1 (8 + i) 1) (z_row σ1 7 f1 (8 + i) 2) (f_bnd (tvC σ1 t 0 (σ1 6)) 40)), .int (nI i), .ref 4] L0 _
  have hV : f_reach (z_row σ1 7 f1 (8 + i) 0) (z_row σ1 7 f1 (8 + i) 1) (z_row σ1 7 f1 (8 + i) 2) (f_bnd (tvC σ1 t 0 (σ1 6)) 40) = lg := by
    rw [z_row_n _ _ _ _ (by omega), o1 _ (by omega) (by omega) (by omega), c1, ← hlg]
    unfold g_lg
    rw [show tvC σ t 0 (σ1 6) = tvC σ t 0 (g_env (σ (8 + i)) (σ 1 5) h 0) from tvR_env v1]
  rw [hV]
  refine zT.step ct_X4_measure_ok ?_
  refine Exists.intro i (And.intro ⟨rfl, by decide, 8, rfl, hi, by decide⟩ ?_)
  refine zT.step ct_X4_measure_ok ?_
  refine zT.step ct_X4_measure_ok ?_
  refine And.intro ⟨by decide, _, rfl⟩ ?_
  refine zT.step ct_X4_measure_ok ?_
  refine zT.step ct_X4_measure_ok ?_
  refine zT.step ct_X4_measure_ok ?_
  refine And.intro ⟨by decide, _, rfl⟩ ?_
  refine zT.step ct_X4_measure_ok ?_
  refine zT.step ct_X4_measure_ok ?_
  refine Exists.intro i (And.intro ⟨rfl, by decide, 8, rfl, hi, by decide⟩ ?_)
  refine zT.step ct_X4_measure_ok ?_
  refine Exists.intro 3 (And.intro ⟨rfl, by decide, 6, rfl, by decide, by decide⟩ ?_)
  refine zT.abs (τ := τ) (r := r) rfl fun σ2 e2 => ?_
  have o2 : ∀ b, b ≠ 4 → b ≠ 5 → b ≠ 6 → b ≠ 7 → σ2 b = σ b := fun b h4 h5 h6 h7 => by
    rw [e2]
    simp only [sI_1, mm_1, zu_n _ _ _ _ _ h4, zu_n _ _ _ _ _ h6, z_row_n _ _ _ _ h7, o1 b h4 h5 h6]
  have l2 : σ2 4 = upd (σ 4) i lg := by
    rw [e2]
    simp only [sI_1, mm_1, zu_s, n6 _ _ _ 4 (by decide), z_row_n _ _ 4 _ (show (4 : Nat) ≠ 7 by decide), l1, upd_upd]
  have d2 : σ2 5 = upd (σ 5) i 0 := by
    rw [e2]
    simp only [sI_1, mm_1, n4 _ _ _ 5 (by decide), n6 _ _ _ 5 (by decide), z_row_n _ _ 5 _ (show (5 : Nat) ≠ 7 by decide), d1]
  have v2 : ∀ j, j < 6 → σ2 6 j = g_env (σ (8 + i)) (σ 1 5) h lg j := fun j hj => by
    rw [e2]
    simp only [sI_1, mm_1, zu_s, n4 _ _ _ 6 (by decide), z_row_n _ _ 6 _ (show (6 : Nat) ≠ 7 by decide), upd_at]
    have := v1 j hj
    match j, hj, this with
    | 0, _, e => exact e
    | 1, _, e => exact e
    | 2, _, e => exact e
    | 3, _, e => rfl
    | 4, _, e => exact e
    | 5, _, e => exact e
  have W2 : RW σ2 t := fun q hq => by rw [o2 _ (by omega) (by omega) (by omega) (by omega)]; exact hW q hq
  have c2 : ∀ q e, tvC σ2 t q e = tvC σ t q e := fun q e => by unfold tvC; rw [o2 _ (by omega) (by omega) (by omega) (by omega), o2 _ (by omega) (by omega) (by omega) (by omega)]
  clear e2
  refine zT.step ct_X4_measure_ok ?_
  refine zT.step ct_X4_measure_ok ?_
  refine zT.step ct_X4_measure_ok ?_
  refine And.intro ⟨by decide, _, rfl⟩ ?_
  refine zT.step ct_X4_measure_ok ?_
  refine zT.step ct_X4_measure_ok ?_
  refine Exists.intro i (And.intro ⟨rfl, by decide, 8, rfl, hi, by decide⟩ ?_)
  show zT X d m_X4_measure _ 0 0 130 _ [.int (σ2 4 i), .ref (8 + i)] L0 _
  rw [l2, upd_at]
  refine zT.step ct_X4_measure_ok ?_
  refine zT.step ct_X4_measure_ok ?_
  refine zT.step ct_X4_measure_ok ?_
  refine zT.step ct_X4_measure_ok ?_
  refine And.intro ⟨by omega, by decide, _, rfl⟩ (zC.use (s_ruled (t := t) (q := 1) (by omega) ht (by rw [o2 _ (by decide) (by decide) (by decide) (by decide)]; exact hr) W2 (by decide)) (fun w L2 μ2 hw => ?_))
  obtain ⟨rfl, rfl, f2, rfl⟩ := hw
  refine zT.step ct_X4_measure_ok ?_
  refine And.intro ⟨by omega, L0_thing hi⟩ (zF.use (s_owed (by omega) (L0_thing hi)) ?_)
  have hO : f_owed (z_row σ2 7 f2 (8 + i) 0) (z_row σ2 7 f2 (8 + i) 1) lg (f_bnd (tvC σ2 t 1 (σ2 6)) 40) = f_owed (σ (8 + i) 0) (σ (8 + i) 1) lg (f_bnd (tvC σ t 1 (g_env (σ (8 + i)) (σ 1 5) h lg)) 40) := by
    rw [z_row_n _ _ _ _ (by omega), o2 _ (by omega) (by omega) (by omega) (by omega), c2, show tvC σ t 1 (σ2 6) = tvC σ t 1 (g_env (σ (8 + i)) (σ 1 5) h lg) from tvR_env v2]
  show zT X d m_X4_measure _ 0 0 140 _ [.int (f_owed (z_row σ2 7 f2 (8 + i) 0) (z_row σ2 7 f2 (8 + i) 1) lg (f_bnd (tvC σ2 t 1 (σ2 6)) 40))] L0 _
  rw [hO]
  generalize hOW : f_owed (σ (8 + i) 0) (σ (8 + i) 1) lg (f_bnd (tvC σ t 1 (g_env (σ (8 + i)) (σ 1 5) h lg)) 40) = ow
  have o3 : ∀ b, b ≠ 4 → b ≠ 5 → b ≠ 6 → b ≠ 7 → z_row σ2 7 f2 b = σ b := fun b h4 h5 h6 h7 => by rw [z_row_n _ _ _ _ h7, o2 b h4 h5 h6 h7]
  have W3 : RW (z_row σ2 7 f2) t := fun q hq => by rw [o3 _ (by omega) (by omega) (by omega) (by omega)]; exact hW q hq
  refine zT.step ct_X4_measure_ok ?_
  refine zT.step ct_X4_measure_ok ?_
  refine zT.step ct_X4_measure_ok ?_
  refine And.intro ⟨by decide, _, rfl⟩ ?_
  refine zT.step ct_X4_measure_ok ?_
  refine zT.step ct_X4_measure_ok ?_
  refine zT.step ct_X4_measure_ok ?_
  refine zT.step ct_X4_measure_ok ?_
  refine zT.step ct_X4_measure_ok ?_
  refine zT.step ct_X4_measure_ok ?_
  refine zT.step ct_X4_measure_ok ?_
  refine And.intro ⟨by omega, by decide, _, rfl⟩ (zC.use (s_ruled (t := t) (q := 2) (by omega) ht (by rw [o3 _ (by decide) (by decide) (by decide) (by decide)]; exact hr) W3 (by decide)) (fun w L2 μ2 hw => ?_))
  obtain ⟨rfl, rfl, f3, rfl⟩ := hw
  refine zT.step ct_X4_measure_ok ?_
  refine zT.step ct_X4_measure_ok ?_
  refine And.intro (by omega) ?_
  refine zT.step ct_X4_measure_ok ?_
  refine Exists.intro i (And.intro ⟨rfl, by decide, 8, rfl, hi, by decide⟩ ?_)
  refine zT.step ct_X4_measure_ok ?_
  refine And.intro rfl (And.intro rfl ⟨_, rfl, fun b h4 h5 h6 h7 => ?_, ?_, ?_⟩)
  · show z_up (z_row (z_row σ2 7 f2) 7 f3) 5 i _ b = _
    rw [zu_n _ _ _ _ _ h5, z_row_n _ _ _ _ h7, o3 b h4 h5 h6 h7]
  · show z_up (z_row (z_row σ2 7 f2) 7 f3) 5 i _ 4 = _
    rw [zu_n _ _ _ _ _ (by decide), z_row_n _ _ _ _ (by decide), z_row_n _ _ _ _ (by decide), l2]
    unfold g_L
    rw [hdl, hlg]
    rfl
  · show z_up (z_row (z_row σ2 7 f2) 7 f3) 5 i _ 5 = _
    rw [zu_s, z_row_n _ _ _ _ (by decide), z_row_n _ _ _ _ (by decide), d2, upd_upd]
    unfold g_D g_dl
    rw [hdl, hlg, hOW]
    have e3 : tvC (z_row σ2 7 f2) t 2 (z_row σ2 7 f2 6) = tvC σ t 2 (g_env (σ (8 + i)) (σ 1 5) h lg) := by
      rw [z_row_n _ _ _ _ (by decide), show tvC (z_row σ2 7 f2) t 2 (σ2 6) = tvC σ t 2 (σ2 6) by unfold tvC; rw [o3 _ (by omega) (by omega) (by omega) (by omega), o3 _ (by omega) (by omega) (by omega) (by omega)]]
      exact tvR_env v2
    rw [e3]
    rfl
