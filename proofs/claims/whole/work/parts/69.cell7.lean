/-! the reference's cell, film -/
theorem so_n1 {so : Nat} (h : so < 3) : ¬ nI so = -1 := fun z => by
  have := nI_pos' (n := so) (by omega)
  rw [z] at this
  exact absurd this (by decide)
theorem t_cell {X : zXs} {d : Nat} {a σ : zSg} {τ : Nat → Nat → Int64} {r : Option Nat} {x y z : Int32} (hd : 2 ≤ d) (hS : SH a σ) : zC X d 0 0 m_X7_cell [.ref 50, .int x, .int y, .int z] L0 (mm σ τ r) (fun w L2 μ2 => w = some (.int (k_cell a x y)) ∧ L2 = L0 ∧ ∃ σ', μ2 = mm σ' τ r ∧ SH (u_cell a x y z) σ' ∧ SV σ σ') := by
  refine zC.of mk_X7_cell rfl ?_
  refine zT.step ct_X7_cell_ok ?_
  refine zT.step ct_X7_cell_ok ?_
  refine And.intro (by omega) (zF.use (t_isSheet (by omega)) ?_)
  refine zT.step ct_X7_cell_ok ?_
  refine And.intro (fun q => ?_) (fun q => ?_)
  · have hx := fb0 q
    have hk : k_cell a x y = -2 := by unfold k_cell; rw [hx]; rfl
    refine zT.step ct_X7_cell_ok ?_
    refine zT.step ct_X7_cell_ok ?_
    exact And.intro (by rw [hk]) (And.intro rfl ⟨σ, rfl, by unfold u_cell; rw [if_neg (by rw [hk]; decide)]; exact hS, SV.rf⟩)
  have hx := fb1 q
  obtain ⟨s, hs, rfl⟩ := rg_t (by omega) hx
  refine zT.step ct_X7_cell_ok ?_
  refine zT.step ct_X7_cell_ok ?_
  refine And.intro ⟨by decide, _, rfl⟩ ?_
  refine zT.step ct_X7_cell_ok ?_
  refine zT.step ct_X7_cell_ok ?_
  refine Exists.intro s (And.intro ⟨rfl, by decide, 4, rfl, hs, by decide⟩ ?_)
  show zT X d m_X7_cell _ 0 0 16 _ [.int (σ 60 s)] _ _
  rcases hS s hs with ⟨m1, g0⟩ | ⟨so, sz, hso, hsz, e1, e2, g0, g1, g2, g3⟩
  · have hk : k_cell a (nI s) y = -11 := by unfold k_cell; rw [hx, nI_clamp (by omega), if_pos m1]; rfl
    rw [g0]
    refine zT.step ct_X7_cell_ok ?_
    refine And.intro (fun _ => ?_) (fun q => absurd rfl q)
    refine zT.step ct_X7_cell_ok ?_
    refine zT.step ct_X7_cell_ok ?_
    exact And.intro (by rw [hk]) (And.intro rfl ⟨σ, rfl, by unfold u_cell; rw [if_neg (by rw [hk]; decide)]; exact hS, SV.rf⟩)
  have hk : k_cell a (nI s) y = bif rg y sz then 1 else -12 := by
    unfold k_cell
    rw [hx, nI_clamp (by omega), e1, if_neg (so_n1 hso), e2, nI_clamp (by omega)]
    rfl
  rw [g0]
  refine zT.step ct_X7_cell_ok ?_
  refine And.intro (fun q => absurd q (by decide)) (fun _ => ?_)
  refine zT.step ct_X7_cell_ok ?_
  refine zT.step ct_X7_cell_ok ?_
  refine zT.step ct_X7_cell_ok ?_
  refine zT.step ct_X7_cell_ok ?_
  refine zT.step ct_X7_cell_ok ?_
  refine And.intro ⟨by decide, _, rfl⟩ ?_
  refine zT.step ct_X7_cell_ok ?_
  refine zT.step ct_X7_cell_ok ?_
  refine Exists.intro s (And.intro ⟨rfl, by decide, 4, rfl, hs, by decide⟩ ?_)
  have f1 := t_inI (X := X) (d := d - 1) (L := L0) (μ := mm σ τ r) (x := y) (lo := 0) (hi := (nI sz - 1).toInt64) (a := 0) (b := nI sz - 1) rfl (Int32.toInt_toInt64 _)
  rw [rg_lem (by omega)] at f1
  refine zT.step ct_X7_cell_ok ?_
  refine zT.step ct_X7_cell_ok ?_
  refine zT.step ct_X7_cell_ok ?_
  show zT X d m_X7_cell _ 0 0 34 _ [.long (σ 62 s - 1).toInt64, .long 0, .long y.toInt64] _ _
  rw [g2]
  refine zT.step ct_X7_cell_ok ?_
  refine And.intro (by omega) (zF.use f1 ?_)
  refine zT.step ct_X7_cell_ok ?_
  refine And.intro (fun q => ?_) (fun q => ?_)
  · rw [fb0 q] at hk
    have hk : k_cell a (nI s) y = -12 := hk
    refine zT.step ct_X7_cell_ok ?_
    refine zT.step ct_X7_cell_ok ?_
    exact And.intro (by rw [hk]) (And.intro rfl ⟨σ, rfl, by unfold u_cell; rw [if_neg (by rw [hk]; decide)]; exact hS, SV.rf⟩)
  have hy := fb1 q
  rw [hy] at hk
  have hk : k_cell a (nI s) y = 1 := hk
  obtain ⟨j, hj, rfl⟩ := rg_t (by omega) hy
  have put : ∀ v : Int32, v = f_nar (nI so) z → zT X d m_X7_cell (fun w L2 μ2 => w = some (.int (k_cell a (nI s) (nI j))) ∧ L2 = L0 ∧ ∃ σ', μ2 = mm σ' τ r ∧ SH (u_cell a (nI s) (nI j) z) σ' ∧ SV σ σ') 0 0 83 [some (.ref 50), some (.int (nI s)), some (.int (nI j)), some (.int z)] [.int v, .int (nI 40 * nI s + nI j), .ref 63] L0 (mm σ τ r) := by
    intro v hv
    refine zT.step ct_X7_cell_ok ?_
    refine Exists.intro (40 * s + j) (And.intro ⟨by rw [nI_mulN, nI_add], by decide, 160, rfl, by omega, by decide⟩ ?_)
    refine zT.step ct_X7_cell_ok ?_
    refine zT.step ct_X7_cell_ok ?_
    refine And.intro (by rw [hk]) (And.intro rfl ⟨z_up σ 63 (40 * s + j) v, rfl, ?_, SV.up (by decide)⟩)
    have eu : u_cell a (nI s) (nI j) z = z_up a (43 + 2 * s) j (f_nar (nI so) z) := by unfold u_cell; rw [if_pos hk, nI_clamp (by omega), nI_clamp (by omega), e1]
    rw [eu]
    refine hS.chg (s := s) (SO.u63 (by omega)) (fun u hu hus => ⟨zu_n _ _ _ _ _ (by omega), zu_n _ _ _ _ _ (by omega)⟩) (Or.inr ⟨so, sz, hso, hsz, ?_, ?_, ?_, ?_, ?_, fun i hi => ?_⟩)
    · rw [zu_n _ _ _ _ _ (by omega)]; exact e1
    · rw [zu_n _ _ _ _ _ (by omega)]; exact e2
    · rw [zu_n _ _ _ _ _ (by decide)]; exact g0
    · rw [zu_n _ _ _ _ _ (by decide)]; exact g1
    · rw [zu_n _ _ _ _ _ (by decide)]; exact g2
    · by_cases q : i = j
      · rw [q, z_up_s, z_up_s, hv]
      · rw [zu_k _ _ _ _ _ q, zu_k _ _ _ _ _ (by omega)]; exact g3 i hi
  refine zT.step ct_X7_cell_ok ?_
  refine zT.step ct_X7_cell_ok ?_
  refine And.intro ⟨by decide, _, rfl⟩ ?_
  refine zT.step ct_X7_cell_ok ?_
  refine zT.step ct_X7_cell_ok ?_
  refine zT.step ct_X7_cell_ok ?_
  refine zT.step ct_X7_cell_ok ?_
  refine zT.step ct_X7_cell_ok ?_
  refine zT.step ct_X7_cell_ok ?_
  refine zT.step ct_X7_cell_ok ?_
  refine And.intro ⟨by decide, _, rfl⟩ ?_
  refine zT.step ct_X7_cell_ok ?_
  refine zT.step ct_X7_cell_ok ?_
  refine Exists.intro s (And.intro ⟨rfl, by decide, 4, rfl, hs, by decide⟩ ?_)
  refine zT.step ct_X7_cell_ok ?_
  refine And.intro (fun q => ?_) (fun q => ?_)
  · have q : σ 61 s = 0 := q
    rw [g1] at q
    refine zT.step ct_X7_cell_ok ?_
    refine zT.step ct_X7_cell_ok ?_
    refine zT.step ct_X7_cell_ok ?_
    exact put _ (by unfold f_nar; rw [if_pos q])
  · have q : ¬ σ 61 s = 0 := q
    rw [g1] at q
    refine zT.step ct_X7_cell_ok ?_
    refine zT.step ct_X7_cell_ok ?_
    refine And.intro ⟨by decide, _, rfl⟩ ?_
    refine zT.step ct_X7_cell_ok ?_
    refine zT.step ct_X7_cell_ok ?_
    refine Exists.intro s (And.intro ⟨rfl, by decide, 4, rfl, hs, by decide⟩ ?_)
    refine zT.step ct_X7_cell_ok ?_
    refine zT.step ct_X7_cell_ok ?_
    refine And.intro (fun q2 => ?_) (fun q2 => ?_)
    · have q2 : σ 61 s = 1 := q2
      rw [g1] at q2
      refine zT.step ct_X7_cell_ok ?_
      refine zT.step ct_X7_cell_ok ?_
      refine zT.step ct_X7_cell_ok ?_
      exact put _ (by unfold f_nar; rw [if_neg q, if_pos q2])
    · have q2 : ¬ σ 61 s = 1 := q2
      rw [g1] at q2
      refine zT.step ct_X7_cell_ok ?_
      exact put _ (by unfold f_nar; rw [if_neg q, if_neg q2])
theorem SH.sg {a σ σ' : zSg} (s : SG σ σ') (h : SH a σ) : SH a σ' := by
  intro u hu
  rw [s.1 60 (by decide) (by decide) (by decide) (by decide), s.1 61 (by decide) (by decide) (by decide) (by decide), s.1 62 (by decide) (by decide) (by decide) (by decide), s.1 63 (by decide) (by decide) (by decide) (by decide)]
  exact h u hu
theorem t_film {X : zXs} {d n t m : Nat} {a σ : zSg} {τ : Nat → Nat → Int64} {r : Option Nat} {x y : Int32} (hd : 58 ≤ d) (hE : RE a σ n t m) (hS : SH a σ) (ha : σ 50 27 = -1) : zC X d 0 0 m_X7_film [.ref 50, .int x, .int y] L0 (mm σ τ r) (fun w L2 μ2 => w = some (.int (bif rg x 4 && rg y n then 13 else -2)) ∧ L2 = L0 ∧ ∃ σ' τ', μ2 = mm σ' τ' r ∧ SH (bif rg x 4 && rg y n then u_film a n t x.toNatClampNeg y.toNatClampNeg else a) σ' ∧ SV σ σ') := by
  have h8 := hE.1.1
  have bad : (rg x 4 && rg y n) = false → zT X d m_X7_film (fun w L2 μ2 => w = some (.int (bif rg x 4 && rg y n then 13 else -2)) ∧ L2 = L0 ∧ ∃ σ' τ', μ2 = mm σ' τ' r ∧ SH (bif rg x 4 && rg y n then u_film a n t x.toNatClampNeg y.toNatClampNeg else a) σ' ∧ SV σ σ') 0 0 15 [some (.ref 50), some (.int x), some (.int y), none] [] L0 (mm σ τ r) := by
    intro h
    rw [h]
    refine zT.step ct_X7_film_ok ?_
    refine zT.step ct_X7_film_ok ?_
    exact And.intro rfl (And.intro rfl ⟨σ, τ, rfl, hS, SV.rf⟩)
  refine zC.of mk_X7_film rfl ?_
  refine zT.step ct_X7_film_ok ?_
  refine zT.step ct_X7_film_ok ?_
  refine And.intro (by omega) (zF.use (t_isSheet (by omega)) ?_)
  refine zT.step ct_X7_film_ok ?_
  refine And.intro (fun q => bad (by rw [fb0 q]; rfl)) (fun q => ?_)
  have hx := fb1 q
  refine zT.step ct_X7_film_ok ?_
  refine zT.step ct_X7_film_ok ?_
  refine zT.step ct_X7_film_ok ?_
  refine And.intro ⟨by omega, by decide, _, rfl⟩ (zF.use (t_isThing (by omega) hE.1.2.1 h8) ?_)
  refine zT.step ct_X7_film_ok ?_
  refine And.intro (fun q => bad (by rw [fb0 q, Bool.and_false])) (fun q => ?_)
  have hy := fb1 q
  rw [hx, hy]
  obtain ⟨s, hs, rfl⟩ := rg_t (by omega) hx
  obtain ⟨i, hi, rfl⟩ := rg_t (by omega) hy
  rw [nI_clamp (by omega), nI_clamp (by omega)]
  obtain ⟨Q, hQ⟩ : ∃ Q : zRQ, Q = (fun w L2 μ2 => w = some (.int (bif true && true then 13 else -2)) ∧ L2 = L0 ∧ ∃ σ' τ', μ2 = mm σ' τ' r ∧ SH (bif true && true then u_film a n t s i else a) σ' ∧ SV σ σ') := ⟨_, rfl⟩
  rw [← hQ]
  have k3 : k_sheet (nI s) 2 13 = 3 := by
    unfold k_sheet
    rw [rg_i (by decide) hs]
    rfl
  have lp : ∀ (m' h : Nat) (σ1 : zSg) (τ1 : Nat → Nat → Int64), h + m' = 13 → SO s σ σ1 → SH (z_shw a s 2 13 (f_film (fun h => cDu a n t h i) (z_fl0 (a (43 + 2 * s)) 0 40) h)) σ1 → zT X d m_X7_film Q 0 0 29 [some (.ref 50), some (.int (nI s)), some (.int (nI i)), some (.int (nI h))] [] L0 (mm σ1 τ1 r) := by
    intro m'
    induction m' with
    | zero =>
      intro h σ1 τ1 hh S H
      have hh : h = 13 := by omega
      subst hh
      refine zT.step ct_X7_film_ok ?_
      refine zT.step ct_X7_film_ok ?_
      refine zT.step ct_X7_film_ok ?_
      refine And.intro (fun _ => ?_) (fun q => absurd (by decide) q)
      refine zT.step ct_X7_film_ok ?_
      refine zT.step ct_X7_film_ok ?_
      rw [hQ]
      exact And.intro rfl (And.intro rfl ⟨σ1, τ1, rfl, H, S.1⟩)
    | succ m' ih =>
      intro h σ1 τ1 hh S H
      refine zT.step ct_X7_film_ok ?_
      refine zT.step ct_X7_film_ok ?_
      refine zT.step ct_X7_film_ok ?_
      refine And.intro (fun q => absurd q (nI_ge (show h < 13 by omega) (by decide))) (fun _ => ?_)
      refine zT.step ct_X7_film_ok ?_
      refine zT.step ct_X7_film_ok ?_
      refine And.intro ⟨by decide, _, rfl⟩ ?_
      refine zT.step ct_X7_film_ok ?_
      refine zT.step ct_X7_film_ok ?_
      refine zT.step ct_X7_film_ok ?_
      refine zT.step ct_X7_film_ok ?_
      refine zT.step ct_X7_film_ok ?_
      refine zT.step ct_X7_film_ok ?_
      refine zT.step ct_X7_film_ok ?_
      refine zT.step ct_X7_film_ok ?_
      refine zT.step ct_X7_film_ok ?_
      refine And.intro ⟨by omega, by decide, _, rfl⟩ (zC.use (t_dueOf1 (by omega) (hE.sv S.1) (show h < 13 by omega) hi ((S.1.2 27 (by omega)).trans ha)) (fun w L2 μ2 hw => ?_))
      obtain ⟨rfl, rfl, σ2, τ2, rfl, S2, -⟩ := hw
      refine zT.step ct_X7_film_ok ?_
      refine Exists.intro (40 * s + h) (And.intro ⟨?_, by decide, 160, rfl, by omega, by decide⟩ ?_)
      · show nI 40 * nI s + nI h = _
        rw [nI_mulN, nI_add]
      refine zT.step ct_X7_film_ok ?_
      refine zT.step ct_X7_film_ok ?_
      rw [nI_1]
      have H2 := SH.sg S2 H
      refine ih (h + 1) (z_up σ2 63 (40 * s + h) (cDu a n t h i)) τ2 (by omega) ((S.trans S2.so).trans (SO.u63 (by omega))) ?_
      refine H2.chg (s := s) (SO.u63 (by omega)) (fun u hu hus => ⟨by rw [z_shw_o _ _ _ _ _ _ (by omega) (by omega), z_shw_o _ _ _ _ _ _ (by omega) (by omega)], by rw [z_shw_o _ _ _ _ _ _ (by omega) (by omega), z_shw_o _ _ _ _ _ _ (by omega) (by omega)]⟩) ?_
      rcases H2 s hs with ⟨m1, -⟩ | ⟨so, sz, hso, hsz, e1, e2, g0, g1, g2, g3⟩
      · rw [z_shw_1] at m1
        exact absurd m1 (by decide)
      · rw [z_shw_1] at e1
        rw [z_shw_2] at e2
        refine Or.inr ⟨so, sz, hso, hsz, by rw [z_shw_1]; exact e1, by rw [z_shw_2]; exact e2, ?_, ?_, ?_, fun j hj => ?_⟩
        · rw [zu_n _ _ _ _ _ (by decide)]; exact g0
        · rw [zu_n _ _ _ _ _ (by decide)]; exact g1
        · rw [zu_n _ _ _ _ _ (by decide)]; exact g2
        · have g3 := g3 j hj
          rw [z_shw_n] at g3 ⊢
          rw [← f_film_s]
          unfold upd
          by_cases q : j = h
          · rw [q, z_up_s, if_pos rfl]
          · rw [zu_k _ _ _ _ _ (by omega), if_neg q]; exact g3
  refine zT.step ct_X7_film_ok ?_
  refine zT.step ct_X7_film_ok ?_
  refine zT.step ct_X7_film_ok ?_
  refine zT.step ct_X7_film_ok ?_
  refine zT.step ct_X7_film_ok ?_
  refine And.intro ⟨by omega, by decide, _, rfl⟩ (zC.use (t_sheet (a := a) (by omega) hS) (fun w L2 μ2 hw => ?_))
  obtain ⟨rfl, rfl, σ1, rfl, H, -, S⟩ := hw
  rw [nI_clamp (by omega)] at S
  refine zT.step ct_X7_film_ok ?_
  refine zT.step ct_X7_film_ok ?_
  refine zT.step ct_X7_film_ok ?_
  refine lp 13 0 σ1 τ rfl S ?_
  have e : u_sheet a (nI s) 2 13 = z_shw a s 2 13 (f_film (fun h => cDu a n t h i) (z_fl0 (a (43 + 2 * s)) 0 40) 0) := by
    unfold u_sheet
    rw [k3, nI_clamp (by omega)]
    have : f_film (fun h => cDu a n t h i) (z_fl0 (a (43 + 2 * s)) 0 40) 0 = z_fl0 (a (43 + 2 * s)) 0 40 := by funext j; exact if_neg (by omega)
    rw [this]
    rfl
  rw [← e]
  exact H
