/-! become, sheet, cell, film -/
/-- the square and the texts alike -/
def EQ (a b : zSg) : Prop := ∀ c, c < 34 → b c = a c
theorem EQ.LD {a b : zSg} (h : EQ a b) {t i x : Nat} (ht : t < 6) (hi : i < 8) : cL b t x i = cL a t x i ∧ cD b t x i = cD a t x i := by
  have htv : tvC b t = tvC a t := by
    funext q e
    unfold tvC
    rw [h _ (by omega), h _ (by omega)]
  unfold cL cD
  rw [htv, h 1 (by omega), h (8 + i) (by omega)]
  exact ⟨rfl, rfl⟩
theorem EQ.S {a b : zSg} (h : EQ a b) {n t x : Nat} {aw : Int32} (hn : n ≤ 8) (ht : t < 6) : cS b n t x aw = cS a n t x aw := g_sw_congr (fun i hi => h _ (by omega)) (fun i hi => (h.LD ht (by omega)).1)
theorem EQ.Du {a b : zSg} (h : EQ a b) {n t x i : Nat} (hn : n ≤ 8) (ht : t < 6) (hi : i < 8) : cDu b n t x i = cDu a n t x i := by
  unfold cDu f_due
  rw [h.S hn ht, (h.LD ht hi).2]
theorem EQ.Al {a b : zSg} (h : EQ a b) {n t x : Nat} (hn : n ≤ 8) (ht : t < 6) : cAl b n t x = cAl a n t x := by
  unfold cAl
  rw [h.S hn ht]
  exact f_all_congr n (fun i hi => (h.LD ht (by omega)).2)
theorem EQ.RW {a b : zSg} (h : EQ a b) {t : Nat} (ht : t < 6) (H : RW a t) : RW b t := fun q hq => by rw [h _ (by omega)]; exact H q hq
theorem EQ.CK {a b : zSg} (h : EQ a b) {n t : Nat} (H : CK a n t) : CK b n t := ⟨H.1, by rw [h 1 (by omega)]; exact H.2.1, H.2.2.1, by rw [h 1 (by omega)]; exact H.2.2.2.1, h.RW H.2.2.1 H.2.2.2.2.1, by rw [h 1 (by omega)]; exact H.2.2.2.2.2⟩
theorem SE.row {a b : zSg} {c : Nat} {g : Nat → Int32} {h : Nat} {v : Int32} (hc : 8 ≤ c) (s : SE (z_row a c g) b) : SE (z_row a c (upd g h v)) (z_up b c h v) := by
  refine ⟨fun x x1 x4 x5 x6 x7 => ?_, fun y y9 y10 => ?_⟩
  · by_cases hx : x = c
    · subst hx
      rw [zu_s, z_row_s, s.1 x x1 x4 x5 x6 x7, z_row_s]
    · rw [zu_n _ _ _ _ _ hx, z_row_n _ _ _ _ hx, s.1 x x1 x4 x5 x6 x7, z_row_n _ _ _ _ hx]
  · rw [zu_n _ _ _ _ _ (by omega), s.2 y y9 y10, z_row_n _ _ _ _ (by omega), z_row_n _ _ _ _ (by omega)]
def z_shw (σ : zSg) (s : Nat) (so sz : Int32) (f : Nat → Int32) : zSg := z_row (z_up (z_up σ (42 + 2 * s) 1 so) (42 + 2 * s) 2 sz) (43 + 2 * s) f
theorem z_shw_o (σ : zSg) (s : Nat) (so sz : Int32) (f : Nat → Int32) (c : Nat) (h1 : c ≠ 42 + 2 * s) (h2 : c ≠ 43 + 2 * s) : z_shw σ s so sz f c = σ c := by
  unfold z_shw
  rw [z_row_n _ _ _ _ h2, zu_n _ _ _ _ _ h1, zu_n _ _ _ _ _ h1]
theorem z_shw_n (σ : zSg) (s : Nat) (so sz : Int32) (f : Nat → Int32) : z_shw σ s so sz f (43 + 2 * s) = f := z_row_s _ _ _
theorem z_shw_1 (σ : zSg) (s : Nat) (so sz : Int32) (f : Nat → Int32) : z_shw σ s so sz f (42 + 2 * s) 1 = so := by
  unfold z_shw
  rw [z_row_n _ _ _ _ (by omega), zu_s, zu_s]
  rfl
theorem z_shw_2 (σ : zSg) (s : Nat) (so sz : Int32) (f : Nat → Int32) : z_shw σ s so sz f (42 + 2 * s) 2 = sz := by
  unfold z_shw
  rw [z_row_n _ _ _ _ (by omega), zu_s]
  rfl
theorem z_shw_EQ (σ : zSg) (s : Nat) (so sz : Int32) (f : Nat → Int32) : EQ σ (z_shw σ s so sz f) := fun c hc => z_shw_o _ _ _ _ _ _ (by omega) (by omega)
def u_become (σ : zSg) (s : Nat) (so sz : Int32) : zSg := z_shw σ s so sz (z_fl0 (σ (43 + 2 * s)) 0 40)
theorem s_become {X : zXs} {d s : Nat} {σ : zSg} {τ : Nat → Nat → Int64} {r : Option Nat} {so sz : Int32} (hd : 1 ≤ d) (hs : s < 4) : zF X d m_X3_become [.ref (42 + 2 * s), .int so, .int sz] L0 (mm σ τ r) none (mm (u_become σ s so sz) τ r) := by
  have z0 : ∀ μ : zMem, μ.2.2 = z_rho r → z_fv μ (42 + 2 * s) 3 0 = .ref (43 + 2 * s) := by
    intro μ h
    show z_rv (μ.2.2 _ 0) = _
    rw [h, rho_sheet r hs]
    rfl
  refine zF.of mk_X3_become rfl ?_
  refine zT.step ct_X3_become_ok ?_
  refine zT.step ct_X3_become_ok ?_
  refine zT.step ct_X3_become_ok ?_
  refine And.intro (L0_sheet hs).1 ?_
  refine zT.step ct_X3_become_ok ?_
  refine zT.step ct_X3_become_ok ?_
  refine zT.step ct_X3_become_ok ?_
  refine And.intro (L0_sheet hs).1 ?_
  refine zT.step ct_X3_become_ok ?_
  refine zT.step ct_X3_become_ok ?_
  refine And.intro (L0_sheet hs).1 ?_
  rw [z0 _ rfl]
  refine zT.step ct_X3_become_ok ?_
  refine zT.step ct_X3_become_ok ?_
  refine And.intro (by omega) (zF.use (s_fill (σ := z_up (z_up σ (42 + 2 * s) 1 so) (42 + 2 * s) 2 sz) (τ := τ) (r := r) ⟨by omega, (L0_sheet hs).2⟩ (by decide)) ?_)
  refine zT.step ct_X3_become_ok ?_
  refine And.intro rfl (And.intro rfl ?_)
  unfold u_become z_shw
  rw [zu_n _ _ _ _ _ (by omega), zu_n _ _ _ _ _ (by omega)]
theorem nI_sub {a b : Nat} (h : b ≤ a) : nI a - nI b = nI (a - b) := by
  have e : nI (a - b) + nI b = nI a := by rw [nI_add]; congr 1; omega
  rw [← e, Int32.add_sub_cancel]
/-- which way a sheet's call goes: 0 bad, 1 none, 2 below nothing, 3 it is made -/
def k_sheet (x y z : Int32) : Nat := bif !rg x 4 || decide (y < -1) || decide (2 < y) then 0 else if y = -1 then 1 else if 40 < z then 0 else if z < 0 then 2 else 3
def v_sheet (x y z : Int32) : Int32 := if k_sheet x y z = 0 then -2 else if k_sheet x y z = 2 then -14 else 1
def u_sheet (σ : zSg) (x y z : Int32) : zSg := if k_sheet x y z = 1 then u_become σ x.toNatClampNeg (-1) 0 else if k_sheet x y z = 3 then u_become σ x.toNatClampNeg y z else σ
theorem s_sheet {X : zXs} {d : Nat} {σ : zSg} {τ : Nat → Nat → Int64} {r : Option Nat} {x y z : Int32} (hd : 2 ≤ d) : zF X d m_X6_sheet [.ref 0, .int x, .int y, .int z] L0 (mm σ τ r) (some (.int (v_sheet x y z))) (mm (u_sheet σ x y z) τ r) := by
  have bad : k_sheet x y z = 0 → zT X d m_X6_sheet (fun w L2 μ2 => w = some (.int (v_sheet x y z)) ∧ L2 = L0 ∧ μ2 = mm (u_sheet σ x y z) τ r) 0 0 18 [some (.ref 0), some (.int x), some (.int y), some (.int z)] [] L0 (mm σ τ r) := by
    intro h
    refine zT.step ct_X6_sheet_ok ?_
    refine zT.step ct_X6_sheet_ok ?_
    exact And.intro (by unfold v_sheet; rw [h]; rfl) (And.intro rfl (by unfold u_sheet; rw [h]; rfl))
  refine zF.of mk_X6_sheet rfl ?_
  refine zT.step ct_X6_sheet_ok ?_
  refine zT.step ct_X6_sheet_ok ?_
  refine zT.step ct_X6_sheet_ok ?_
  refine And.intro ⟨by omega, by decide, _, rfl⟩ (zF.use s_isSheet ?_)
  refine zT.step ct_X6_sheet_ok ?_
  refine And.intro (fun q => ?_) (fun q => ?_)
  · exact bad (by unfold k_sheet; rw [fb0 q]; rfl)
  have hx := fb1 q
  refine zT.step ct_X6_sheet_ok ?_
  refine zT.step ct_X6_sheet_ok ?_
  refine zT.step ct_X6_sheet_ok ?_
  refine And.intro (fun q => bad (by unfold k_sheet; rw [decide_eq_true (show y < -1 from q), hx]; rfl)) (fun q1 => ?_)
  have q1 : ¬ y < -1 := q1
  refine zT.step ct_X6_sheet_ok ?_
  refine zT.step ct_X6_sheet_ok ?_
  refine zT.step ct_X6_sheet_ok ?_
  refine And.intro (fun q2 => ?_) (fun q2 => ?_)
  · have q2 : ¬ 2 < y := Int32.not_lt.mpr q2
    have hk : k_sheet x y z = if y = -1 then 1 else if 40 < z then 0 else if z < 0 then 2 else 3 := by
      unfold k_sheet
      rw [hx, decide_eq_false q1, decide_eq_false q2]
      rfl
    obtain ⟨s, hs, rfl⟩ := rg_t (by omega) hx
    refine zT.step ct_X6_sheet_ok ?_
    refine zT.step ct_X6_sheet_ok ?_
    refine zT.step ct_X6_sheet_ok ?_
    refine And.intro (fun q3 => ?_) (fun q3 => ?_)
    · have q3 : y = -1 := q3
      have hk : k_sheet (nI s) y z = 1 := by rw [hk, if_pos q3]
      refine zT.step ct_X6_sheet_ok ?_
      refine zT.step ct_X6_sheet_ok ?_
      refine And.intro ⟨by decide, _, rfl⟩ ?_
      refine zT.step ct_X6_sheet_ok ?_
      refine zT.step ct_X6_sheet_ok ?_
      refine Exists.intro s (And.intro ⟨rfl, by decide, 4, rfl, hs, by decide⟩ ?_)
      refine zT.step ct_X6_sheet_ok ?_
      refine zT.step ct_X6_sheet_ok ?_
      refine zT.step ct_X6_sheet_ok ?_
      refine And.intro ⟨by omega, (L0_sheet hs).1⟩ (zF.use (s_become (by omega) hs) ?_)
      refine zT.step ct_X6_sheet_ok ?_
      refine zT.step ct_X6_sheet_ok ?_
      exact And.intro (by unfold v_sheet; rw [hk]; rfl) (And.intro rfl (by unfold u_sheet; rw [hk, nI_clamp (by omega)]; rfl))
    · have q3 : ¬ y = -1 := q3
      rw [if_neg q3] at hk
      refine zT.step ct_X6_sheet_ok ?_
      refine zT.step ct_X6_sheet_ok ?_
      refine zT.step ct_X6_sheet_ok ?_
      refine And.intro (fun q4 => ?_) (fun q4 => ?_)
      · have q4 : ¬ 40 < z := Int32.not_lt.mpr q4
        rw [if_neg q4] at hk
        refine zT.step ct_X6_sheet_ok ?_
        refine zT.step ct_X6_sheet_ok ?_
        refine And.intro (fun q5 => ?_) (fun q5 => ?_)
        · have q5 : ¬ z < 0 := Int32.not_lt.mpr q5
          rw [if_neg q5] at hk
          refine zT.step ct_X6_sheet_ok ?_
          refine zT.step ct_X6_sheet_ok ?_
          refine And.intro ⟨by decide, _, rfl⟩ ?_
          refine zT.step ct_X6_sheet_ok ?_
          refine zT.step ct_X6_sheet_ok ?_
          refine Exists.intro s (And.intro ⟨rfl, by decide, 4, rfl, hs, by decide⟩ ?_)
          refine zT.step ct_X6_sheet_ok ?_
          refine zT.step ct_X6_sheet_ok ?_
          refine zT.step ct_X6_sheet_ok ?_
          refine And.intro ⟨by omega, (L0_sheet hs).1⟩ (zF.use (s_become (by omega) hs) ?_)
          refine zT.step ct_X6_sheet_ok ?_
          refine zT.step ct_X6_sheet_ok ?_
          exact And.intro (by unfold v_sheet; rw [hk]; rfl) (And.intro rfl (by unfold u_sheet; rw [hk, nI_clamp (by omega)]; rfl))
        · have q5 : z < 0 := Int32.not_le.mp q5
          rw [if_pos q5] at hk
          refine zT.step ct_X6_sheet_ok ?_
          refine zT.step ct_X6_sheet_ok ?_
          exact And.intro (by unfold v_sheet; rw [hk]; rfl) (And.intro rfl (by unfold u_sheet; rw [hk]; rfl))
      · have q4 : 40 < z := Int32.not_le.mp q4
        rw [if_pos q4] at hk
        refine zT.step ct_X6_sheet_ok ?_
        refine zT.step ct_X6_sheet_ok ?_
        exact And.intro (by unfold v_sheet; rw [hk]; rfl) (And.intro rfl (by unfold u_sheet; rw [hk]; rfl))
  · have q2 : 2 < y := Int32.not_le.mp q2
    exact bad (by unfold k_sheet; rw [hx, decide_eq_false q1, decide_eq_true q2]; rfl)
/-- a sheet that is there has a size -/
def z_sz (σ : zSg) : Prop := ∀ s, s < 4 → ∃ sz, sz ≤ 40 ∧ σ (42 + 2 * s) 2 = nI sz
def k_cell (σ : zSg) (x y : Int32) : Int32 := bif rg x 4 then (if σ (42 + 2 * x.toNatClampNeg) 1 = -1 then -11 else bif rg y (σ (42 + 2 * x.toNatClampNeg) 2).toNatClampNeg then 1 else -12) else -2
def u_cell (σ : zSg) (x y z : Int32) : zSg := if k_cell σ x y = 1 then z_up σ (43 + 2 * x.toNatClampNeg) y.toNatClampNeg (f_nar (σ (42 + 2 * x.toNatClampNeg) 1) z) else σ
theorem holds1 {sz : Nat} {y : Int32} (hs : sz ≤ 40) : f_holds (nI sz) y 1 = rg y sz := by
  unfold f_holds rg
  rw [decide_eq_decide]
  have e1 : (1 : Int32).toInt = 1 := rfl
  have e0 : (0 : Int32).toInt = 0 := rfl
  constructor
  · rintro ⟨h1, h2, h3, h4⟩
    obtain ⟨j, hj, rfl⟩ := nI_of (x := y) h1
    rw [nI_ltI (by omega) hj] at h3
    rw [nI_sub (by omega)] at h4
    have : ¬ nI (sz - j) < nI 1 := h4
    rw [nI_ltI (by omega) (by omega)] at this
    exact ⟨nI_pos' hj, (nI_ltI hj (by omega)).mpr (by omega)⟩
  · rintro ⟨h1, h2⟩
    obtain ⟨j, hj, rfl⟩ := nI_of (x := y) (Int32.not_lt.mpr h1)
    rw [nI_ltI hj (by omega)] at h2
    refine ⟨Int32.not_lt.mpr h1, by decide, by rw [nI_ltI (by omega) hj]; omega, ?_⟩
    rw [nI_sub (by omega)]
    show ¬ nI (sz - j) < nI 1
    rw [nI_ltI (by omega) (by omega)]
    omega
theorem s_cell {X : zXs} {d : Nat} {σ : zSg} {τ : Nat → Nat → Int64} {r : Option Nat} {x y z : Int32} (hd : 1 ≤ d) (hz : z_sz σ) : zF X d m_X6_cell [.ref 0, .int x, .int y, .int z] L0 (mm σ τ r) (some (.int (k_cell σ x y))) (mm (u_cell σ x y z) τ r) := by
  refine zF.of mk_X6_cell rfl ?_
  refine zT.step ct_X6_cell_ok ?_
  refine zT.step ct_X6_cell_ok ?_
  refine zT.step ct_X6_cell_ok ?_
  refine And.intro ⟨by omega, by decide, _, rfl⟩ (zF.use s_isSheet ?_)
  refine zT.step ct_X6_cell_ok ?_
  refine And.intro (fun q => ?_) (fun q => ?_)
  · have hx := fb0 q
    have hk : k_cell σ x y = -2 := by
      unfold k_cell
      rw [hx]
      rfl
    refine zT.step ct_X6_cell_ok ?_
    refine zT.step ct_X6_cell_ok ?_
    exact And.intro (by rw [hk]) (And.intro rfl (by unfold u_cell; rw [if_neg (by rw [hk]; decide)]))
  · have hx := fb1 q
    obtain ⟨s, hs, rfl⟩ := rg_t (by omega) hx
    obtain ⟨sz, hsz, hse⟩ := hz s hs
    refine zT.step ct_X6_cell_ok ?_
    refine zT.step ct_X6_cell_ok ?_
    refine And.intro ⟨by decide, _, rfl⟩ ?_
    refine zT.step ct_X6_cell_ok ?_
    refine zT.step ct_X6_cell_ok ?_
    refine Exists.intro s (And.intro ⟨rfl, by decide, 4, rfl, hs, by decide⟩ ?_)
    refine zT.step ct_X6_cell_ok ?_
    refine zT.step ct_X6_cell_ok ?_
    refine zT.step ct_X6_cell_ok ?_
    refine And.intro ⟨by omega, (L0_sheet hs).1⟩ (zF.use (s_isMissing (L0_sheet hs).1) ?_)
    refine zT.step ct_X6_cell_ok ?_
    refine And.intro (fun q2 => ?_) (fun q2 => ?_)
    · have q2 : ¬ σ (42 + 2 * s) 1 = -1 := of_decide_eq_false (fb0 q2)
      refine zT.step ct_X6_cell_ok ?_
      refine zT.step ct_X6_cell_ok ?_
      refine zT.step ct_X6_cell_ok ?_
      refine zT.step ct_X6_cell_ok ?_
      refine And.intro ⟨by omega, (L0_sheet hs).1⟩ (zF.use (s_holds (L0_sheet hs).1) ?_)
      rw [mm_1, hse, holds1 hsz]
      have hk : k_cell σ (nI s) y = bif rg y sz then 1 else -12 := by
        unfold k_cell
        rw [hx, nI_clamp (by omega), if_neg q2, hse, nI_clamp (by omega)]
        rfl
      refine zT.step ct_X6_cell_ok ?_
      refine And.intro (fun q3 => ?_) (fun q3 => ?_)
      · have hy := fb0 q3
        rw [hy] at hk
        have hk : k_cell σ (nI s) y = -12 := hk
        refine zT.step ct_X6_cell_ok ?_
        refine zT.step ct_X6_cell_ok ?_
        exact And.intro (by rw [hk]) (And.intro rfl (by unfold u_cell; rw [if_neg (by rw [hk]; decide)]))
      · have hy := fb1 q3
        rw [hy] at hk
        have hk : k_cell σ (nI s) y = 1 := hk
        obtain ⟨j, hj, rfl⟩ := rg_t (by omega) hy
        refine zT.step ct_X6_cell_ok ?_
        refine zT.step ct_X6_cell_ok ?_
        refine zT.step ct_X6_cell_ok ?_
        refine zT.step ct_X6_cell_ok ?_
        refine And.intro ⟨by omega, (L0_sheet hs).1⟩ (zF.use (s_write (L0_sheet hs).1 (rho_sheet r hs) ⟨by omega, (L0_sheet hs).2⟩ hse hsz hj) ?_)
        refine zT.step ct_X6_cell_ok ?_
        refine zT.step ct_X6_cell_ok ?_
        exact And.intro (by rw [hk]) (And.intro rfl (by unfold u_cell; rw [if_pos hk, nI_clamp (by omega), nI_clamp (by omega)]))
    · have q2 : σ (42 + 2 * s) 1 = -1 := of_decide_eq_true (fb1 q2)
      have hk : k_cell σ (nI s) y = -11 := by
        unfold k_cell
        rw [hx, nI_clamp (by omega), if_pos q2]
        rfl
      refine zT.step ct_X6_cell_ok ?_
      refine zT.step ct_X6_cell_ok ?_
      exact And.intro (by rw [hk]) (And.intro rfl (by unfold u_cell; rw [if_neg (by rw [hk]; decide)]))
def f_film (du : Nat → Int32) (g : Nat → Int32) (h : Nat) : Nat → Int32 := fun j => if j < h then du j else g j
theorem f_film_s (du g : Nat → Int32) (h : Nat) : upd (f_film du g h) h (du h) = f_film du g (h + 1) := by
  funext j
  unfold upd f_film
  by_cases hj : j = h
  · simp [hj]
  · by_cases h2 : j < h
    · simp [hj, h2, Nat.lt_succ_of_lt h2]
    · have : ¬ j < h + 1 := by omega
      simp [hj, h2, this]
def u_film (σ : zSg) (n t s i : Nat) : zSg := z_shw σ s 2 13 (f_film (fun h => cDu σ n t h i) (z_fl0 (σ (43 + 2 * s)) 0 40) 13)
theorem s_film {X : zXs} {d n t : Nat} {σ : zSg} {τ : Nat → Nat → Int64} {r : Option Nat} {x y : Int32} (hd : 6 ≤ d) (hK : CK σ n t) : zC X d 0 0 m_X6_film [.ref 0, .int x, .int y] L0 (mm σ τ r) (zA (bif rg x 4 && rg y n then u_film σ n t x.toNatClampNeg y.toNatClampNeg else σ) τ r (bif rg x 4 && rg y n then 13 else -2)) := by
  have bad : (rg x 4 && rg y n) = false → zT X d m_X6_film (zA (bif rg x 4 && rg y n then u_film σ n t x.toNatClampNeg y.toNatClampNeg else σ) τ r (bif rg x 4 && rg y n then 13 else -2)) 0 0 19 [some (.ref 0), some (.int x), some (.int y), none, none] [] L0 (mm σ τ r) := by
    intro h
    rw [h]
    refine zT.step ct_X6_film_ok ?_
    refine zT.step ct_X6_film_ok ?_
    exact zA.mk rfl SE.rf
  refine zC.of mk_X6_film rfl ?_
  refine zT.step ct_X6_film_ok ?_
  refine zT.step ct_X6_film_ok ?_
  refine zT.step ct_X6_film_ok ?_
  refine And.intro ⟨by omega, by decide, _, rfl⟩ (zF.use s_isSheet ?_)
  refine zT.step ct_X6_film_ok ?_
  refine And.intro (fun q => bad (by rw [fb0 q]; rfl)) (fun q => ?_)
  have hx := fb1 q
  refine zT.step ct_X6_film_ok ?_
  refine zT.step ct_X6_film_ok ?_
  refine And.intro ⟨by decide, _, rfl⟩ ?_
  refine zT.step ct_X6_film_ok ?_
  refine zT.step ct_X6_film_ok ?_
  refine And.intro ⟨by omega, by decide, _, rfl⟩ (zF.use (s_hasK hK) ?_)
  refine zT.step ct_X6_film_ok ?_
  refine And.intro (fun q => bad (by rw [fb0 q, hx]; rfl)) (fun q => ?_)
  have hy := fb1 q
  rw [hx, hy]
  obtain ⟨s, hs, rfl⟩ := rg_t (by omega) hx
  obtain ⟨i, hi, rfl⟩ := rg_t (by have := hK.1; omega) hy
  have hn8 := hK.1
  rw [nI_clamp (by omega), nI_clamp (by omega)]
  show zT _ _ _ (zA (u_film σ n t s i) τ r 13) _ _ _ _ _ _ _
  have hEQ : ∀ g, EQ σ (z_shw σ s 2 13 g) := fun g => z_shw_EQ _ _ _ _ _
  have lp : ∀ (m h : Nat) (σ1 : zSg), h + m = 13 → SE (z_shw σ s 2 13 (f_film (fun h => cDu σ n t h i) (z_fl0 (σ (43 + 2 * s)) 0 40) h)) σ1 → zT X d m_X6_film (zA (u_film σ n t s i) τ r 13) 0 0 39 [some (.ref 0), some (.int (nI s)), some (.int (nI i)), some (.ref (42 + 2 * s)), some (.int (nI h))] [] L0 (mm σ1 τ r) := by
    intro m
    induction m with
    | zero =>
      intro h σ1 hh s1
      have hh : h = 13 := by omega
      subst hh
      refine zT.step ct_X6_film_ok ?_
      refine zT.step ct_X6_film_ok ?_
      refine zT.step ct_X6_film_ok ?_
      refine And.intro (fun q => ?_) (fun q => ?_)
      · refine zT.step ct_X6_film_ok ?_
        refine zT.step ct_X6_film_ok ?_
        exact zA.mk rfl s1
      · exact absurd (show (13 : Int32) ≤ nI 13 by decide) q
    | succ m ih =>
      intro h σ1 hh s1
      refine zT.step ct_X6_film_ok ?_
      refine zT.step ct_X6_film_ok ?_
      refine zT.step ct_X6_film_ok ?_
      refine And.intro (fun q => ?_) (fun q => ?_)
      · have := (i_le (x := 13) (a := 13) (y := nI h) rfl rfl (by omega) (by omega)).mp q
        omega
      refine zT.step ct_X6_film_ok ?_
      refine zT.step ct_X6_film_ok ?_
      refine And.intro ⟨by decide, _, rfl⟩ ?_
      refine zT.step ct_X6_film_ok ?_
      refine zT.step ct_X6_film_ok ?_
      have K1 := ((hEQ (f_film (fun h => cDu σ n t h i) (z_fl0 (σ (43 + 2 * s)) 0 40) h)).CK hK).se s1
      refine And.intro ⟨by omega, by decide, _, rfl⟩ (zC.use (s_lookK (by omega) K1 (show h < 13 by omega)) (fun w L2 μ2 hw => ?_))
      obtain ⟨rfl, rfl, σ', rfl, H⟩ := hw
      refine zT.step ct_X6_film_ok ?_
      refine zT.step ct_X6_film_ok ?_
      refine zT.step ct_X6_film_ok ?_
      refine zT.step ct_X6_film_ok ?_
      refine And.intro ⟨by decide, _, rfl⟩ ?_
      refine zT.step ct_X6_film_ok ?_
      refine zT.step ct_X6_film_ok ?_
      refine And.intro ⟨by omega, by decide, _, rfl⟩ (zF.use (s_dueOf (by omega)) ?_)
      rw [H.due hi, s1.eDu, (hEQ _).Du hn8 hK.2.2.1 (by omega)]
      have s2 := s1.trans H.se
      have hsz : σ' (42 + 2 * s) 2 = nI 13 := by rw [s2.1 _ (by omega) (by omega) (by omega) (by omega) (by omega), z_shw_2]; rfl
      have hso : σ' (42 + 2 * s) 1 = 2 := by rw [s2.1 _ (by omega) (by omega) (by omega) (by omega) (by omega), z_shw_1]
      refine zT.step ct_X6_film_ok ?_
      refine And.intro ⟨by omega, (L0_sheet hs).1⟩ (zF.use (s_write (L0_sheet hs).1 (rho_sheet r hs) ⟨by omega, (L0_sheet hs).2⟩ hsz (by omega) (show h < 13 by omega)) ?_)
      have nar : f_nar (σ' (42 + 2 * s) 1) (cDu σ n t h i) = cDu σ n t h i := by rw [hso]; rfl
      rw [nar]
      refine zT.step ct_X6_film_ok ?_
      refine zT.step ct_X6_film_ok ?_
      rw [nI_1]
      refine ih (h + 1) _ (by omega) ?_
      have := SE.row (h := h) (v := cDu σ n t h i) (by omega) s2
      rw [f_film_s (fun h => cDu σ n t h i)] at this
      exact this
  refine zT.step ct_X6_film_ok ?_
  refine zT.step ct_X6_film_ok ?_
  refine And.intro ⟨by decide, _, rfl⟩ ?_
  refine zT.step ct_X6_film_ok ?_
  refine zT.step ct_X6_film_ok ?_
  refine Exists.intro s (And.intro ⟨rfl, by decide, 4, rfl, hs, by decide⟩ ?_)
  refine zT.step ct_X6_film_ok ?_
  refine zT.step ct_X6_film_ok ?_
  refine zT.step ct_X6_film_ok ?_
  refine zT.step ct_X6_film_ok ?_
  refine zT.step ct_X6_film_ok ?_
  refine And.intro ⟨by omega, (L0_sheet hs).1⟩ (zF.use (s_become (by omega) hs) ?_)
  refine zT.step ct_X6_film_ok ?_
  refine zT.step ct_X6_film_ok ?_
  refine lp 13 0 _ rfl ?_
  have : f_film (fun h => cDu σ n t h i) (z_fl0 (σ (43 + 2 * s)) 0 40) 0 = z_fl0 (σ (43 + 2 * s)) 0 40 := by funext j; exact if_neg (by omega)
  rw [this]
  exact SE.rf
