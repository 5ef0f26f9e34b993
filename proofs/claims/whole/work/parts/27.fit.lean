/-! Thing.read, write; firstOtherwise, fitting -/
/-- what can be tried: its number, its field, from, to -/
def z_wk (wn k lo hi : Nat) : Prop := (wn = 5 ∧ k = 0 ∧ lo = 0 ∧ hi = 5) ∨ (wn = 2 ∧ k = 1 ∧ lo = 0 ∧ hi = 9) ∨ (wn = 3 ∧ k = 2 ∧ lo = 1 ∧ hi = 20) ∨ (wn = 4 ∧ k = 3 ∧ lo = 0 ∧ hi = 29)
theorem s_readT {X : zXs} {d a wn k lo hi : Nat} {L : List zSh} {μ : zMem} (hw : z_wk wn k lo hi) (ha : a < 1000000 ∧ ∃ w, L[a]? = some (5, w)) : zF X d m_X5_read [.ref a, .int (nI wn)] L μ (some (.int (μ.1 a k))) μ := by
  refine zF.of mk_X5_read rfl ?_
  refine zT.step ct_X5_read_ok ?_
  refine zT.step ct_X5_read_ok ?_
  rcases hw with ⟨rfl, rfl, -⟩ | ⟨rfl, rfl, -⟩ | ⟨rfl, rfl, -⟩ | ⟨rfl, rfl, -⟩
  · refine z_tin (K := fun t => zT _ _ _ _ _ _ t _ _ _ _) (c := 5) rfl 3 47 rfl rfl ?_
    refine zT.step ct_X5_read_ok ?_
    refine zT.step ct_X5_read_ok ?_
    refine And.intro ha ?_
    refine zT.step ct_X5_read_ok ?_
    exact And.intro rfl (And.intro rfl rfl)
  · refine z_tin (K := fun t => zT _ _ _ _ _ _ t _ _ _ _) (c := 2) rfl 0 32 rfl rfl ?_
    refine zT.step ct_X5_read_ok ?_
    refine zT.step ct_X5_read_ok ?_
    refine And.intro ha ?_
    refine zT.step ct_X5_read_ok ?_
    exact And.intro rfl (And.intro rfl rfl)
  · refine z_tin (K := fun t => zT _ _ _ _ _ _ t _ _ _ _) (c := 3) rfl 1 37 rfl rfl ?_
    refine zT.step ct_X5_read_ok ?_
    refine zT.step ct_X5_read_ok ?_
    refine And.intro ha ?_
    refine zT.step ct_X5_read_ok ?_
    exact And.intro rfl (And.intro rfl rfl)
  · refine z_tin (K := fun t => zT _ _ _ _ _ _ t _ _ _ _) (c := 4) rfl 2 42 rfl rfl ?_
    refine zT.step ct_X5_read_ok ?_
    refine zT.step ct_X5_read_ok ?_
    refine And.intro ha ?_
    refine zT.step ct_X5_read_ok ?_
    exact And.intro rfl (And.intro rfl rfl)
theorem s_writeT {X : zXs} {d a wn k lo hi : Nat} {L : List zSh} {μ : zMem} {v : Int32} (hw : z_wk wn k lo hi) (ha : a < 1000000 ∧ ∃ w, L[a]? = some (5, w)) : zF X d m_X5_write [.ref a, .int (nI wn), .int v] L μ none (z_sI μ a k v) := by
  refine zF.of mk_X5_write rfl ?_
  refine zT.step ct_X5_write_ok ?_
  refine zT.step ct_X5_write_ok ?_
  rcases hw with ⟨rfl, rfl, -⟩ | ⟨rfl, rfl, -⟩ | ⟨rfl, rfl, -⟩ | ⟨rfl, rfl, -⟩
  · refine z_tin (K := fun t => zT _ _ _ _ _ _ t _ _ _ _) (c := 5) rfl 3 56 rfl rfl ?_
    refine zT.step ct_X5_write_ok ?_
    refine zT.step ct_X5_write_ok ?_
    refine zT.step ct_X5_write_ok ?_
    refine And.intro ha ?_
    refine zT.step ct_X5_write_ok ?_
    refine zT.step ct_X5_write_ok ?_
    exact And.intro rfl (And.intro rfl rfl)
  · refine z_tin (K := fun t => zT _ _ _ _ _ _ t _ _ _ _) (c := 2) rfl 0 32 rfl rfl ?_
    refine zT.step ct_X5_write_ok ?_
    refine zT.step ct_X5_write_ok ?_
    refine zT.step ct_X5_write_ok ?_
    refine And.intro ha ?_
    refine zT.step ct_X5_write_ok ?_
    refine zT.step ct_X5_write_ok ?_
    exact And.intro rfl (And.intro rfl rfl)
  · refine z_tin (K := fun t => zT _ _ _ _ _ _ t _ _ _ _) (c := 3) rfl 1 40 rfl rfl ?_
    refine zT.step ct_X5_write_ok ?_
    refine zT.step ct_X5_write_ok ?_
    refine zT.step ct_X5_write_ok ?_
    refine And.intro ha ?_
    refine zT.step ct_X5_write_ok ?_
    refine zT.step ct_X5_write_ok ?_
    exact And.intro rfl (And.intro rfl rfl)
  · refine z_tin (K := fun t => zT _ _ _ _ _ _ t _ _ _ _) (c := 4) rfl 2 48 rfl rfl ?_
    refine zT.step ct_X5_write_ok ?_
    refine zT.step ct_X5_write_ok ?_
    refine zT.step ct_X5_write_ok ?_
    refine And.intro ha ?_
    refine zT.step ct_X5_write_ok ?_
    refine zT.step ct_X5_write_ok ?_
    exact And.intro rfl (And.intro rfl rfl)
/-- a sheet of 13 numbers -/
def z_sh13 (σ : zSg) (s : Nat) : Prop := s < 4 ∧ σ (42 + 2 * s) 2 = nI 13
theorem s_at13 {X : zXs} {d s h : Nat} {σ : zSg} {τ : Nat → Nat → Int64} {r : Option Nat} (hs : z_sh13 σ s) (hh : h < 13) : zF X d m_X3_at [.ref (42 + 2 * s), .int (nI h)] L0 (mm σ τ r) (some (.int (σ (43 + 2 * s) h))) (mm σ τ r) := by
  have h1 := s_at (X := X) (d := d) (τ := τ) (x := nI h) (L0_sheet hs.1).1 (rho_sheet r hs.1) ⟨by have := hs.1; omega, (L0_sheet hs.1).2⟩ hs.2 (by omega)
  rw [rg_i (by omega) hh, nI_clamp (by omega)] at h1
  exact h1
theorem z_sh13.se {σ σ' : zSg} {s : Nat} (h : z_sh13 σ s) (e : SE σ σ') : z_sh13 σ' s ∧ σ' (43 + 2 * s) = σ (43 + 2 * s) := by
  refine ⟨⟨h.1, ?_⟩, e.1 _ (by omega) (by omega) (by omega) (by omega) (by omega)⟩
  rw [e.1 _ (by omega) (by omega) (by omega) (by omega) (by omega)]
  exact h.2
theorem z_sh13.mv {σ : zSg} {s i k : Nat} {v : Int32} (hi : i < 8) (h : z_sh13 σ s) : z_sh13 (mv σ i k v) s ∧ mv σ i k v (43 + 2 * s) = σ (43 + 2 * s) := by
  refine ⟨⟨h.1, ?_⟩, mv_o _ _ _ _ _ (by omega)⟩
  rw [mv_o _ _ _ _ _ (by omega)]
  exact h.2
def cFo (du tl : Nat → Int32) : Nat → Nat → Int32
  | 0, _ => -1
  | m + 1, h => if du h = tl h then cFo du tl m (h + 1) else nI h
theorem s_firstOtherwise {X : zXs} {d n t s i : Nat} {σ : zSg} {τ : Nat → Nat → Int64} {r : Option Nat} (hd : 6 ≤ d) (hK : CK σ n t) (hi : i < n) (hs : z_sh13 σ s) : zC X d 0 0 m_X6_firstOtherwise [.ref 0, .ref (42 + 2 * s), .int (nI i)] L0 (mm σ τ r) (zA σ τ r (cFo (fun h => cDu σ n t h i) (σ (43 + 2 * s)) 13 0)) := by
  have hi8 : i < 8 := by have := hK.1; omega
  have lp : ∀ (m h : Nat) (σ1 : zSg), h + m = 13 → SE σ σ1 → zT X d m_X6_firstOtherwise (zA σ τ r (cFo (fun h => cDu σ n t h i) (σ (43 + 2 * s)) m h)) 0 0 2 [some (.ref 0), some (.ref (42 + 2 * s)), some (.int (nI i)), some (.int (nI h))] [] L0 (mm σ1 τ r) := by
    intro m
    induction m with
    | zero =>
      intro h σ1 hh s1
      have hh : h = 13 := by omega
      subst hh
      refine zT.step ct_X6_firstOtherwise_ok ?_
      refine zT.step ct_X6_firstOtherwise_ok ?_
      refine zT.step ct_X6_firstOtherwise_ok ?_
      refine And.intro (fun q => ?_) (fun q => ?_)
      · refine zT.step ct_X6_firstOtherwise_ok ?_
        refine zT.step ct_X6_firstOtherwise_ok ?_
        exact zA.mk rfl s1
      · exact absurd (show (13 : Int32) ≤ nI 13 by decide) q
    | succ m ih =>
      intro h σ1 hh s1
      refine zT.step ct_X6_firstOtherwise_ok ?_
      refine zT.step ct_X6_firstOtherwise_ok ?_
      refine zT.step ct_X6_firstOtherwise_ok ?_
      refine And.intro (fun q => ?_) (fun q => ?_)
      · have := (i_le (x := 13) (a := 13) (y := nI h) rfl rfl (by omega) (by omega)).mp q
        omega
      refine zT.step ct_X6_firstOtherwise_ok ?_
      refine zT.step ct_X6_firstOtherwise_ok ?_
      refine And.intro ⟨by decide, _, rfl⟩ ?_
      refine zT.step ct_X6_firstOtherwise_ok ?_
      refine zT.step ct_X6_firstOtherwise_ok ?_
      refine And.intro ⟨by omega, by decide, _, rfl⟩ (zC.use (s_lookK (by omega) (hK.se s1) (show h < 13 by omega)) (fun w L2 μ2 hw => ?_))
      obtain ⟨rfl, rfl, σ', rfl, H⟩ := hw
      refine zT.step ct_X6_firstOtherwise_ok ?_
      refine zT.step ct_X6_firstOtherwise_ok ?_
      refine And.intro ⟨by decide, _, rfl⟩ ?_
      refine zT.step ct_X6_firstOtherwise_ok ?_
      refine zT.step ct_X6_firstOtherwise_ok ?_
      refine And.intro ⟨by omega, by decide, _, rfl⟩ (zF.use (s_dueOf hi8) ?_)
      rw [H.due hi, s1.eDu]
      have s2 := s1.trans H.se
      refine zT.step ct_X6_firstOtherwise_ok ?_
      refine zT.step ct_X6_firstOtherwise_ok ?_
      refine zT.step ct_X6_firstOtherwise_ok ?_
      refine And.intro ⟨by omega, (L0_sheet hs.1).1⟩ (zF.use (s_at13 (hs.se s2).1 (show h < 13 by omega)) ?_)
      rw [(hs.se s2).2]
      refine zT.step ct_X6_firstOtherwise_ok ?_
      refine And.intro (fun q => ?_) (fun q => ?_)
      · have q : cDu σ n t h i = σ (43 + 2 * s) h := q
        have e : cFo (fun h => cDu σ n t h i) (σ (43 + 2 * s)) (m + 1) h = cFo (fun h => cDu σ n t h i) (σ (43 + 2 * s)) m (h + 1) := if_pos q
        rw [e]
        refine zT.step ct_X6_firstOtherwise_ok ?_
        refine zT.step ct_X6_firstOtherwise_ok ?_
        rw [nI_1]
        exact ih (h + 1) σ' (by omega) s2
      · have q : ¬ cDu σ n t h i = σ (43 + 2 * s) h := q
        have e : cFo (fun h => cDu σ n t h i) (σ (43 + 2 * s)) (m + 1) h = nI h := if_neg q
        rw [e]
        refine zT.step ct_X6_firstOtherwise_ok ?_
        refine zT.step ct_X6_firstOtherwise_ok ?_
        exact zA.mk rfl s2
  refine zC.of mk_X6_firstOtherwise rfl ?_
  refine zT.step ct_X6_firstOtherwise_ok ?_
  refine zT.step ct_X6_firstOtherwise_ok ?_
  exact lp 13 0 σ rfl SE.rf
def cFi (f : Nat → Int32) (x : Int32) : Nat → Nat → Int32 → Int32
  | 0, _, fit => fit
  | m + 1, v, fit => cFi f x m (v + 1) (if fit >>> (nI v &&& 31) &&& 1 = 0 then fit else if f v = x then fit else fit &&& (1 <<< (nI v &&& 31) ^^^ -1))
def cFh (du : Nat → Nat → Int32) (tl : Nat → Int32) (lo hi : Nat) : Nat → Nat → Int32 → Int32
  | 0, _, fit => fit
  | m + 1, h, fit => if fit = 0 then fit else cFh du tl lo hi m (h + 1) (cFi (du h) (tl h) (hi + 1 - lo) lo fit)
theorem s_fitting {X : zXs} {d n t s i wn k lo hi : Nat} {σ : zSg} {τ : Nat → Nat → Int64} {r : Option Nat} (hd : 6 ≤ d) (hK : CK σ n t) (hin : i < n) (hs : z_sh13 σ s) (hw : z_wk wn k lo hi) : zC X d 0 0 m_X4_fitting [.ref 1, .int (nI wn), .int (nI i), .ref (42 + 2 * s)] L0 (mm σ τ r) (zA σ τ r (cFh (fun h v => cDu (mv σ i k (nI v)) n t h i) (σ (43 + 2 * s)) lo hi 13 0 (f_bits (nI lo) (nI hi + 1)))) := by
  have hi8 : i < 8 := by have := hK.1; omega
  have hwn : wn < 6 := by rcases hw with h | h | h | h <;> omega
  have hlo : z_of X 0 wn = nI lo := by rcases hw with ⟨rfl, -, rfl, -⟩ | ⟨rfl, -, rfl, -⟩ | ⟨rfl, -, rfl, -⟩ | ⟨rfl, -, rfl, -⟩ <;> rfl
  have hhi : z_of X 1 wn = nI hi := by rcases hw with ⟨rfl, -, -, rfl⟩ | ⟨rfl, -, -, rfl⟩ | ⟨rfl, -, -, rfl⟩ | ⟨rfl, -, -, rfl⟩ <;> rfl
  have hb : lo ≤ hi ∧ hi ≤ 29 := by rcases hw with h | h | h | h <;> omega
  generalize hF : cFh (fun h v => cDu (mv σ i k (nI v)) n t h i) (σ (43 + 2 * s)) lo hi 13 0 (f_bits (nI lo) (nI hi + 1)) = res
  -- the values, within an hour
  have inn : ∀ (m v h : Nat) (σ1 : zSg) (u fit : Int32), v + m = hi + 1 → h < 13 → SE (mv σ i k u) σ1 → (∀ j, j < n → j ≠ i → σ1 4 j = cL σ t h j ∧ σ1 5 j = cD σ t h j) →
      (∀ (σ2 : zSg) (u2 : Int32), SE (mv σ i k u2) σ2 → zT X d m_X4_fitting (zA σ τ r res) 0 0 136 [some (.ref 1), some (.int (nI wn)), some (.int (nI i)), some (.ref (42 + 2 * s)), some (.ref (8 + i)), some (.int (σ (8 + i) k)), some (.int (cFi (fun v => cDu (mv σ i k (nI v)) n t h i) (σ (43 + 2 * s) h) m v fit)), some (.int (nI h)), none] [] L0 (mm σ2 τ r)) →
      zT X d m_X4_fitting (zA σ τ r res) 0 0 61 [some (.ref 1), some (.int (nI wn)), some (.int (nI i)), some (.ref (42 + 2 * s)), some (.ref (8 + i)), some (.int (σ (8 + i) k)), some (.int fit), some (.int (nI h)), some (.int (nI v))] [] L0 (mm σ1 τ r) := by
    intro m
    induction m with
    | zero =>
      intro v h σ1 u fit hv hh s1 w1 K
      refine zT.step ct_X4_fitting_ok ?_
      refine zT.step ct_X4_fitting_ok ?_
      refine zT.step ct_X4_fitting_ok ?_
      refine zT.step ct_X4_fitting_ok ?_
      refine Exists.intro wn (And.intro ⟨rfl, ⟨by decide, by decide⟩, hwn, (show (6 : Nat) ≤ 1000000 by decide)⟩ ?_)
      refine zT.step ct_X4_fitting_ok ?_
      refine And.intro (fun q => ?_) (fun q => ?_)
      · refine zT.drop 8 ?_
        exact K σ1 u s1
      · have q : ¬ z_of X 1 wn < nI v := q
        rw [hhi] at q
        exact absurd ((nI_ltI (by omega) (by omega)).mpr (by omega)) q
    | succ m ih =>
      intro v h σ1 u fit hv hh s1 w1 K
      have next : ∀ (σ2 : zSg) (u2 f2 : Int32), SE (mv σ i k u2) σ2 → (∀ j, j < n → j ≠ i → σ2 4 j = cL σ t h j ∧ σ2 5 j = cD σ t h j) → f2 = (if fit >>> (nI v &&& 31) &&& 1 = 0 then fit else if cDu (mv σ i k (nI v)) n t h i = σ (43 + 2 * s) h then fit else fit &&& (1 <<< (nI v &&& 31) ^^^ -1)) → zT X d m_X4_fitting (zA σ τ r res) 0 0 130 [some (.ref 1), some (.int (nI wn)), some (.int (nI i)), some (.ref (42 + 2 * s)), some (.ref (8 + i)), some (.int (σ (8 + i) k)), some (.int f2), some (.int (nI h)), some (.int (nI v))] [] L0 (mm σ2 τ r) := by
        intro σ2 u2 f2 s2 w2 hf2
        refine zT.step ct_X4_fitting_ok ?_
        refine zT.step ct_X4_fitting_ok ?_
        rw [nI_1]
        exact ih (v + 1) h σ2 u2 f2 (by omega) hh s2 w2 (fun σ3 u3 s3 => by rw [hf2]; exact K σ3 u3 s3)
      refine zT.step ct_X4_fitting_ok ?_
      refine zT.step ct_X4_fitting_ok ?_
      refine zT.step ct_X4_fitting_ok ?_
      refine zT.step ct_X4_fitting_ok ?_
      refine Exists.intro wn (And.intro ⟨rfl, ⟨by decide, by decide⟩, hwn, (show (6 : Nat) ≤ 1000000 by decide)⟩ ?_)
      refine zT.step ct_X4_fitting_ok ?_
      refine And.intro (fun q => ?_) (fun q => ?_)
      · have q : z_of X 1 wn < nI v := q
        rw [hhi] at q
        have := (nI_ltI (by omega) (by omega)).mp q
        omega
      refine zT.step ct_X4_fitting_ok ?_
      refine zT.step ct_X4_fitting_ok ?_
      refine zT.step ct_X4_fitting_ok ?_
      refine zT.step ct_X4_fitting_ok ?_
      refine zT.step ct_X4_fitting_ok ?_
      refine zT.step ct_X4_fitting_ok ?_
      refine And.intro (fun q => ?_) (fun q => ?_)
      · refine zT.step ct_X4_fitting_ok ?_
        exact next σ1 u fit s1 w1 (by rw [if_pos q])
      have q : ¬ fit >>> (nI v &&& 31) &&& 1 = 0 := q
      have s2 : SE (mv σ i k (nI v)) (z_up σ1 (8 + i) k (nI v)) := by
        have := s1.mv i k (nI v)
        rw [mv_mv] at this
        exact this
      generalize hσ2 : z_up σ1 (8 + i) k (nI v) = σ2 at s2
      have w2 : ∀ j, j < n → j ≠ i → σ2 4 j = cL (mv σ i k (nI v)) t h j ∧ σ2 5 j = cD (mv σ i k (nI v)) t h j := by
        intro j hj hji
        rw [← hσ2, zu_n _ _ _ _ _ (by omega), zu_n _ _ _ _ _ (by omega), (mv_L hi8 hji).1, (mv_L hi8 hji).2]
        exact w1 j hj hji
      have K2 := (hK.mv (i := i) (k := k) (v := nI v) hi8).se s2
      have hwr := s_writeT (X := X) (d := d - 1) (L := L0) (μ := mm σ1 τ r) (v := nI v) hw (L0_thing hi8)
      rw [mm_sI, hσ2] at hwr
      refine zT.step ct_X4_fitting_ok ?_
      refine zT.step ct_X4_fitting_ok ?_
      refine zT.step ct_X4_fitting_ok ?_
      refine zT.step ct_X4_fitting_ok ?_
      refine And.intro ⟨by omega, L0_thing hi8⟩ (zF.use hwr ?_)
      refine zT.step ct_X4_fitting_ok ?_
      refine zT.step ct_X4_fitting_ok ?_
      refine zT.step ct_X4_fitting_ok ?_
      refine zT.step ct_X4_fitting_ok ?_
      refine And.intro ⟨by omega, by decide, _, rfl⟩ (zC.use (s_measure (t := t) (by omega) hi8 hh K2.2.2.1 K2.2.2.2.1 K2.2.2.2.2.1) (fun w L2 μ2 hw => ?_))
      obtain ⟨rfl, rfl, σ3, rfl, o3, l3, d3⟩ := hw
      refine zT.step ct_X4_fitting_ok ?_
      refine zT.step ct_X4_fitting_ok ?_
      refine zT.step ct_X4_fitting_ok ?_
      refine And.intro ⟨by omega, by decide, _, rfl⟩ (zF.use (s_cast (by omega) hK.1 (by rw [o3 1 (by decide) (by decide) (by decide) (by decide)]; exact K2.2.1) hh) ?_)
      have H := LK.re hi8 (hK.mv (i := i) (k := k) (v := nI v) hi8).2.2.2.2.2 s2 w2 o3 l3 d3
      generalize z_hs σ3 (g_sw n (fun j => σ3 (8 + j)) (σ3 4) h (σ3 1 11)).1 (g_sw n (fun j => σ3 (8 + j)) (σ3 4) h (σ3 1 11)).2.1 = σ4 at H ⊢
      have w4 : ∀ j, j < n → j ≠ i → σ4 4 j = cL σ t h j ∧ σ4 5 j = cD σ t h j := by
        intro j hj hji
        rw [← (mv_L (σ := σ) (k := k) (v := nI v) hi8 hji).1, ← (mv_L (σ := σ) (k := k) (v := nI v) hi8 hji).2]
        exact H.2.2.1 j hj
      have hs4 := (hs.mv (i := i) (k := k) (v := nI v) hi8).1.se H.se
      refine zT.step ct_X4_fitting_ok ?_
      refine zT.step ct_X4_fitting_ok ?_
      refine zT.step ct_X4_fitting_ok ?_
      refine And.intro ⟨by omega, by decide, _, rfl⟩ (zF.use (s_dueOf hi8) ?_)
      rw [H.due hin]
      refine zT.step ct_X4_fitting_ok ?_
      refine zT.step ct_X4_fitting_ok ?_
      refine zT.step ct_X4_fitting_ok ?_
      refine And.intro ⟨by omega, (L0_sheet hs.1).1⟩ (zF.use (s_at13 hs4.1 hh) ?_)
      rw [hs4.2, (hs.mv (i := i) (k := k) (v := nI v) hi8).2]
      refine zT.step ct_X4_fitting_ok ?_
      refine And.intro (fun q2 => ?_) (fun q2 => ?_)
      · exact next σ4 (nI v) fit H.se w4 (by rw [if_neg q, if_pos q2])
      · refine zT.step ct_X4_fitting_ok ?_
        refine zT.step ct_X4_fitting_ok ?_
        refine zT.step ct_X4_fitting_ok ?_
        refine zT.step ct_X4_fitting_ok ?_
        refine zT.step ct_X4_fitting_ok ?_
        refine zT.step ct_X4_fitting_ok ?_
        refine zT.step ct_X4_fitting_ok ?_
        refine zT.step ct_X4_fitting_ok ?_
        exact next σ4 (nI v) _ H.se w4 (by rw [if_neg q, if_neg q2])
  -- the hours
  have lp : ∀ (m h : Nat) (σ1 : zSg) (u fit : Int32), h + m = 13 → SE (mv σ i k u) σ1 → cFh (fun h v => cDu (mv σ i k (nI v)) n t h i) (σ (43 + 2 * s)) lo hi m h fit = res → zT X d m_X4_fitting (zA σ τ r res) 0 0 36 [some (.ref 1), some (.int (nI wn)), some (.int (nI i)), some (.ref (42 + 2 * s)), some (.ref (8 + i)), some (.int (σ (8 + i) k)), some (.int fit), some (.int (nI h)), none] [] L0 (mm σ1 τ r) := by
    intro m
    have fin : ∀ (h : Nat) (σ1 : zSg) (u : Int32), SE (mv σ i k u) σ1 → zT X d m_X4_fitting (zA σ τ r res) 0 0 142 [some (.ref 1), some (.int (nI wn)), some (.int (nI i)), some (.ref (42 + 2 * s)), some (.ref (8 + i)), some (.int (σ (8 + i) k)), some (.int res), some (.int (nI h)), none] [] L0 (mm σ1 τ r) := by
      intro h σ1 u s1
      have sF : SE σ (z_up σ1 (8 + i) k (σ (8 + i) k)) := by
        have := s1.mv i k (σ (8 + i) k)
        rw [mv_mv, mv_id] at this
        exact this
      refine zT.step ct_X4_fitting_ok ?_
      refine zT.step ct_X4_fitting_ok ?_
      refine zT.step ct_X4_fitting_ok ?_
      refine zT.step ct_X4_fitting_ok ?_
      refine And.intro ⟨by omega, L0_thing hi8⟩ (zF.use (s_writeT hw (L0_thing hi8)) ?_)
      refine zT.step ct_X4_fitting_ok ?_
      refine zT.step ct_X4_fitting_ok ?_
      exact zA.mk rfl sF
    induction m with
    | zero =>
      intro h σ1 u fit hh s1 hF
      have hF : fit = res := hF
      subst hF
      have hh : h = 13 := by omega
      subst hh
      refine zT.step ct_X4_fitting_ok ?_
      refine zT.step ct_X4_fitting_ok ?_
      refine zT.step ct_X4_fitting_ok ?_
      refine And.intro (fun q => ?_) (fun q => ?_)
      · exact fin 13 σ1 u s1
      · exact absurd (show (13 : Int32) ≤ nI 13 by decide) q
    | succ m ih =>
      intro h σ1 u fit hh s1 hF
      refine zT.step ct_X4_fitting_ok ?_
      refine zT.step ct_X4_fitting_ok ?_
      refine zT.step ct_X4_fitting_ok ?_
      refine And.intro (fun q => ?_) (fun q => ?_)
      · have := (i_le (x := 13) (a := 13) (y := nI h) rfl rfl (by omega) (by omega)).mp q
        omega
      refine zT.step ct_X4_fitting_ok ?_
      refine zT.step ct_X4_fitting_ok ?_
      refine And.intro (fun q => ?_) (fun q => ?_)
      · have q : fit = 0 := q
        have e : cFh (fun h v => cDu (mv σ i k (nI v)) n t h i) (σ (43 + 2 * s)) lo hi (m + 1) h fit = fit := if_pos q
        rw [e] at hF
        subst hF
        exact fin h σ1 u s1
      · have q : ¬ fit = 0 := q
        have e : cFh (fun h v => cDu (mv σ i k (nI v)) n t h i) (σ (43 + 2 * s)) lo hi (m + 1) h fit = cFh (fun h v => cDu (mv σ i k (nI v)) n t h i) (σ (43 + 2 * s)) lo hi m (h + 1) (cFi (fun v => cDu (mv σ i k (nI v)) n t h i) (σ (43 + 2 * s) h) (hi + 1 - lo) lo fit) := if_neg q
        rw [e] at hF
        refine zT.step ct_X4_fitting_ok ?_
        refine zT.step ct_X4_fitting_ok ?_
        refine zT.step ct_X4_fitting_ok ?_
        refine And.intro ⟨by omega, by decide, _, rfl⟩ (zC.use (s_lookK (by omega) ((hK.mv (i := i) (k := k) (v := u) hi8).se s1) (show h < 13 by omega)) (fun w L2 μ2 hw => ?_))
        obtain ⟨rfl, rfl, σ', rfl, H⟩ := hw
        refine zT.step ct_X4_fitting_ok ?_
        refine zT.step ct_X4_fitting_ok ?_
        refine zT.step ct_X4_fitting_ok ?_
        refine Exists.intro wn (And.intro ⟨rfl, ⟨by decide, by decide⟩, hwn, (show (6 : Nat) ≤ 1000000 by decide)⟩ ?_)
        show zT X d m_X4_fitting _ 0 0 59 _ [.int (z_of X 0 wn)] _ _
        rw [hlo]
        refine zT.step ct_X4_fitting_ok ?_
        refine inn (hi + 1 - lo) lo h σ' u fit (by omega) (by omega) (s1.trans H.se) (fun j hj hji => ?_) (fun σ2 u2 s2 => ?_)
        · have := H.2.2.1 j hj
          rw [s1.eL, s1.eD, (mv_L hi8 hji).1, (mv_L hi8 hji).2] at this
          exact this
        · refine zT.step ct_X4_fitting_ok ?_
          refine zT.step ct_X4_fitting_ok ?_
          rw [nI_1]
          exact ih (h + 1) σ2 u2 _ (by omega) s2 hF
  refine zC.of mk_X4_fitting rfl ?_
  refine zT.step ct_X4_fitting_ok ?_
  refine zT.step ct_X4_fitting_ok ?_
  refine And.intro ⟨by decide, _, rfl⟩ ?_
  refine zT.step ct_X4_fitting_ok ?_
  refine zT.step ct_X4_fitting_ok ?_
  refine Exists.intro i (And.intro ⟨rfl, by decide, 8, rfl, hi8, by decide⟩ ?_)
  refine zT.step ct_X4_fitting_ok ?_
  refine zT.step ct_X4_fitting_ok ?_
  refine zT.step ct_X4_fitting_ok ?_
  refine zT.step ct_X4_fitting_ok ?_
  refine And.intro ⟨by omega, L0_thing hi8⟩ (zF.use (s_readT hw (L0_thing hi8)) ?_)
  refine zT.step ct_X4_fitting_ok ?_
  refine zT.step ct_X4_fitting_ok ?_
  refine zT.step ct_X4_fitting_ok ?_
  refine zT.step ct_X4_fitting_ok ?_
  refine Exists.intro wn (And.intro ⟨rfl, ⟨by decide, by decide⟩, hwn, (show (6 : Nat) ≤ 1000000 by decide)⟩ ?_)
  refine zT.step ct_X4_fitting_ok ?_
  refine zT.step ct_X4_fitting_ok ?_
  refine zT.step ct_X4_fitting_ok ?_
  refine Exists.intro wn (And.intro ⟨rfl, ⟨by decide, by decide⟩, hwn, (show (6 : Nat) ≤ 1000000 by decide)⟩ ?_)
  refine zT.step ct_X4_fitting_ok ?_
  refine zT.step ct_X4_fitting_ok ?_
  refine zT.step ct_X4_fitting_ok ?_
  refine And.intro (by omega) (zF.use s_bits ?_)
  show zT X d m_X4_fitting _ 0 0 31 _ [.int (f_bits (z_of X 0 wn) (z_of X 1 wn + 1))] _ _
  rw [hlo, hhi]
  refine zT.step ct_X4_fitting_ok ?_
  refine zT.step ct_X4_fitting_ok ?_
  refine zT.step ct_X4_fitting_ok ?_
  exact lp 13 0 σ (σ (8 + i) k) _ rfl (by rw [mv_id]; exact SE.rf) hF
