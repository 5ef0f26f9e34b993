/-! the reference's tells: what it is told by -/
theorem TH1.mvk {a : zSg} {x k v : Nat} (h : TH1 (a (8 + x))) (hk : (k = 0 ∧ v < 6) ∨ (k = 1 ∧ v < 10) ∨ (k = 2 ∧ v < 21) ∨ (k = 3 ∧ v < 30)) : TH1 (mv a x k (nI v) (8 + x)) := by
  obtain ⟨h0, h1, h2, h3⟩ := h
  unfold mv
  rcases hk with ⟨rfl, hv⟩ | ⟨rfl, hv⟩ | ⟨rfl, hv⟩ | ⟨rfl, hv⟩
  · exact ⟨⟨v, hv, z_up_s _ _ _ _⟩, by rw [zu_k _ _ _ _ _ (by decide)]; exact h1, by rw [zu_k _ _ _ _ _ (by decide)]; exact h2, by rw [zu_k _ _ _ _ _ (by decide)]; exact h3⟩
  · exact ⟨by rw [zu_k _ _ _ _ _ (by decide)]; exact h0, ⟨v, hv, z_up_s _ _ _ _⟩, by rw [zu_k _ _ _ _ _ (by decide)]; exact h2, by rw [zu_k _ _ _ _ _ (by decide)]; exact h3⟩
  · exact ⟨by rw [zu_k _ _ _ _ _ (by decide)]; exact h0, by rw [zu_k _ _ _ _ _ (by decide)]; exact h1, ⟨v, hv, z_up_s _ _ _ _⟩, by rw [zu_k _ _ _ _ _ (by decide)]; exact h3⟩
  · exact ⟨by rw [zu_k _ _ _ _ _ (by decide)]; exact h0, by rw [zu_k _ _ _ _ _ (by decide)]; exact h1, by rw [zu_k _ _ _ _ _ (by decide)]; exact h2, ⟨v, hv, z_up_s _ _ _ _⟩⟩
theorem rc_no (k x : Nat) : rcC k ≠ 63 ∧ ¬ (50 = rcC k ∧ 27 = rcS k x) := by
  unfold rcC
  by_cases q : k = 0
  · rw [if_pos q]; exact ⟨by decide, fun z => absurd z.1 (by decide)⟩
  · rw [if_neg q]; exact ⟨by decide, fun z => absurd z.1 (by decide)⟩
theorem wk_lay {w k lo hi x : Nat} (h : z_wk w k lo hi) (σ1 : zSg) (v : Int32) : w_lay σ1 w x v = z_up σ1 (rcC k) (rcS k x) v := by
  rcases h with ⟨rfl, rfl, -, -⟩ | ⟨rfl, rfl, -, -⟩ | ⟨rfl, rfl, -, -⟩ | ⟨rfl, rfl, -, -⟩ <;> rfl
theorem wk_told {a σ : zSg} {n t m w k lo hi x : Nat} (h : z_wk w k lo hi) (hE : RE a σ n t m) (hx : x < n) : v_told a n (nI x) (nI w) = σ (rcC k) (rcS k x) := by
  obtain ⟨k0, r0, r1, r2⟩ := hE.2.2.1 x hx
  have h8 := hE.1.1
  have w7 : w < 7 := by rcases h with z | z | z | z <;> omega
  have e : v_told a n (nI x) (nI w) = v_tl a w x := by
    unfold v_told
    rw [rg_i (show n < 2 ^ 31 by omega) hx, nI_clamp (n := w) (by omega), nI_clamp (n := x) (by omega), Bool.or_true, Bool.and_true, rg_i (by decide) w7]
    rfl
  rw [e]
  rcases h with ⟨rfl, rfl, -, -⟩ | ⟨rfl, rfl, -, -⟩ | ⟨rfl, rfl, -, -⟩ | ⟨rfl, rfl, -, -⟩
  · exact k0.symm
  · exact r0.symm
  · exact r1.symm
  · exact r2.symm
theorem wk_bits {w k lo hi : Nat} (h : z_wk w k lo hi) : ∀ i, i < 32 → bt (f_bits (nI lo) (nI hi + 1)) i = decide (lo ≤ i ∧ i ≤ hi) := by
  intro i hi
  have b := bits4 i hi
  rcases h with ⟨-, -, rfl, rfl⟩ | ⟨-, -, rfl, rfl⟩ | ⟨-, -, rfl, rfl⟩ | ⟨-, -, rfl, rfl⟩
  · exact b.1
  · exact b.2.1
  · exact b.2.2.1
  · exact b.2.2.2
theorem t_tells {X : zXs} {d n t m : Nat} {a σ : zSg} {τ : Nat → Nat → Int64} {r : Option Nat} {x y z : Int32} (hd : 58 ≤ d) (hE : RE a σ n t m) (hS : SH a σ) (ha : σ 50 27 = -1) : zC X d 0 0 m_X7_tells [.ref 50, .int x, .int y, .int z] L0 (mm σ τ r) (tA σ r (v_tells a n t m x y z)) := by
  have h8 := hE.1.1
  have hm6 := hE.1.2.2.2.1
  have htm := hE.1.2.2.1
  have hm3 := hE.1.2.2.2.2.1
  have hm4 := hE.1.2.2.2.2.2
  have bad : (rg x 4 && rg y n && rg z 7) = false → zT X d m_X7_tells (tA σ r (v_tells a n t m x y z)) 0 0 27 [some (.ref 50), some (.int x), some (.int y), some (.int z), none, none, none, none, none] [] L0 (mm σ τ r) := by
    intro h
    refine zT.step ct_X7_tells_ok ?_
    refine zT.step ct_X7_tells_ok ?_
    exact And.intro (by unfold v_tells; rw [h]; rfl) (And.intro rfl ⟨σ, τ, rfl, SQ.rf⟩)
  refine zC.of mk_X7_tells rfl ?_
  refine zT.step ct_X7_tells_ok ?_
  refine zT.step ct_X7_tells_ok ?_
  refine And.intro (by omega) (zF.use (t_isSheet (by omega)) ?_)
  refine zT.step ct_X7_tells_ok ?_
  refine And.intro (fun q => bad (by rw [fb0 q]; rfl)) (fun q => ?_)
  have hx := fb1 q
  refine zT.step ct_X7_tells_ok ?_
  refine zT.step ct_X7_tells_ok ?_
  refine zT.step ct_X7_tells_ok ?_
  refine And.intro ⟨by omega, by decide, _, rfl⟩ (zF.use (t_isThing (by omega) hE.1.2.1 h8) ?_)
  refine zT.step ct_X7_tells_ok ?_
  refine And.intro (fun q => bad (by rw [fb0 q, Bool.and_false]; rfl)) (fun q => ?_)
  have hy := fb1 q
  refine zT.step ct_X7_tells_ok ?_
  refine zT.step ct_X7_tells_ok ?_
  refine zT.step ct_X7_tells_ok ?_
  refine zT.step ct_X7_tells_ok ?_
  refine zT.step ct_X7_tells_ok ?_
  refine And.intro (by omega) (zF.use (t_inR (m := 6) (by decide) rfl) ?_)
  refine zT.step ct_X7_tells_ok ?_
  refine And.intro (fun q => bad (by rw [fb0 q, Bool.and_false])) (fun q => ?_)
  have hz := fb1 q
  obtain ⟨s, hs, rfl⟩ := rg_t (by omega) hx
  obtain ⟨i, hi, rfl⟩ := rg_t (by omega) hy
  have hv : v_tells a n t m (nI s) (nI i) z = (if a (42 + 2 * s) 1 = -1 then -11 else if a (42 + 2 * s) 2 = 13 then v_tell a n t m i (a (43 + 2 * s)) z else -2) := by
    unfold v_tells
    rw [hx, hy, hz, nI_clamp (by omega), nI_clamp (by omega)]
    rfl
  rw [hv]
  refine zT.step ct_X7_tells_ok ?_
  refine zT.step ct_X7_tells_ok ?_
  refine And.intro ⟨by decide, _, rfl⟩ ?_
  refine zT.step ct_X7_tells_ok ?_
  refine zT.step ct_X7_tells_ok ?_
  refine Exists.intro s (And.intro ⟨rfl, by decide, 4, rfl, hs, by decide⟩ ?_)
  rcases hS s hs with ⟨m1, g0⟩ | ⟨so, sz, hso, hsz, e1, e2, g0, g1, g2, g3⟩
  · rw [if_pos m1]
    show zT X d m_X7_tells _ 0 0 36 _ [.int (σ 60 s)] _ _
    rw [g0]
    refine zT.step ct_X7_tells_ok ?_
    refine And.intro (fun _ => ?_) (fun q => absurd rfl q)
    refine zT.step ct_X7_tells_ok ?_
    refine zT.step ct_X7_tells_ok ?_
    exact And.intro rfl (And.intro rfl ⟨σ, τ, rfl, SQ.rf⟩)
  have n1 : ¬ a (42 + 2 * s) 1 = -1 := fun z => by
    rw [e1] at z
    have := nI_pos' (n := so) (by omega)
    rw [z] at this
    exact absurd this (by decide)
  rw [if_neg n1, e2]
  show zT X d m_X7_tells _ 0 0 36 _ [.int (σ 60 s)] _ _
  rw [g0]
  refine zT.step ct_X7_tells_ok ?_
  refine And.intro (fun q => absurd q (by decide)) (fun _ => ?_)
  refine zT.step ct_X7_tells_ok ?_
  refine zT.step ct_X7_tells_ok ?_
  refine And.intro ⟨by decide, _, rfl⟩ ?_
  refine zT.step ct_X7_tells_ok ?_
  refine zT.step ct_X7_tells_ok ?_
  refine Exists.intro s (And.intro ⟨rfl, by decide, 4, rfl, hs, by decide⟩ ?_)
  show zT X d m_X7_tells _ 0 0 48 _ [.int (σ 62 s)] _ _
  rw [g2]
  refine zT.step ct_X7_tells_ok ?_
  refine zT.step ct_X7_tells_ok ?_
  refine And.intro (fun q => ?_) (fun q => ?_)
  rotate_left
  · have q : ¬ nI sz = 13 := q
    rw [if_neg q]
    refine zT.step ct_X7_tells_ok ?_
    refine zT.step ct_X7_tells_ok ?_
    exact And.intro rfl (And.intro rfl ⟨σ, τ, rfl, SQ.rf⟩)
  have q : nI sz = 13 := q
  rw [if_pos q]
  have h13 : sz = 13 := by
    have q : nI sz = nI 13 := q
    exact (nI_eq (by omega) (by decide)).mp q
  subst h13
  generalize htl : a (43 + 2 * s) = tl at g3 ⊢
  have go : ∀ (w k lo up : Nat), z_wk w k lo up → v_tell a n t m i tl z = cFh (fun h v => cDu (mv a i k (nI v)) n t h i) tl lo up 13 0 (f_bits (nI lo) (nI up + 1)) → zT X d m_X7_tells (tA σ r (v_tell a n t m i tl z)) 0 0 100 [some (.ref 50), some (.int (nI s)), some (.int (nI i)), some (.int z), none, none, none, none, none] [.int (nI w)] L0 (mm σ τ r) := by
    intro w k lo up hw he
    have hw7 : 2 ≤ w ∧ w < 6 ∧ k < 4 ∧ lo ≤ up ∧ up < 30 := by rcases hw with z | z | z | z <;> omega
    have hlw : lwR w = nI lo := by rcases hw with ⟨rfl, -, rfl, -⟩ | ⟨rfl, -, rfl, -⟩ | ⟨rfl, -, rfl, -⟩ | ⟨rfl, -, rfl, -⟩ <;> rfl
    rw [he, fh_rM (by omega) (by omega) (wk_bits hw)]
    have fin := t_tries (X := X) (d := d) (s := s) (w := w) (lo := lo) (hi := up) (b := rcC k) (k := rcS k i) (τ := τ) (r := r) (tl := tl) (z := z) (A := fun v => mv a i k (nI v)) (T := fun _ => t) (Q := tA σ r (rM (fun v => decide (cFo (fun h => cDu (mv a i k (nI v)) n t h i) tl 13 0 = -1)) lo (up + 1 - lo))) (by omega) (by omega) hi h8 hs (fun σ1 v => wk_lay hw σ1 v) (rc_no k i).1 (rc_no k i).2 (fun v v1 v2 => hE.chg hw7.2.2.1 hi (TH1.mvk (hE.2.2.2.1 i hi) (by rcases hw with z | z | z | z <;> omega))) (by omega) (by omega) hlw g3 ha (fun σ' τ' S => And.intro rfl (And.intro rfl ⟨σ', τ', rfl, S.sq⟩)) σ τ SG.rf
    refine zT.step ct_X7_tells_ok ?_
    refine zT.step ct_X7_tells_ok ?_
    refine zT.step ct_X7_tells_ok ?_
    refine zT.step ct_X7_tells_ok ?_
    refine And.intro (fun q => ?_) (fun _ => ?_)
    · have q : nI w = nI 6 := q
      have := (nI_eq (by omega) (by decide)).mp q
      omega
    refine zT.step ct_X7_tells_ok ?_
    refine zT.step ct_X7_tells_ok ?_
    refine zT.step ct_X7_tells_ok ?_
    refine zT.step ct_X7_tells_ok ?_
    refine And.intro ⟨by omega, by decide, _, rfl⟩ (zF.use (t_told (by omega) hE) ?_)
    rw [wk_told hw hE hi]
    refine zT.step ct_X7_tells_ok ?_
    refine zT.step ct_X7_tells_ok ?_
    refine zT.step ct_X7_tells_ok ?_
    refine zT.step ct_X7_tells_ok ?_
    refine And.intro (fun q => ?_) (fun _ => ?_)
    · have q : nI w = nI 6 := q
      have := (nI_eq (by omega) (by decide)).mp q
      omega
    refine zT.step ct_X7_tells_ok ?_
    refine zT.step ct_X7_tells_ok ?_
    refine zT.step ct_X7_tells_ok ?_
    refine And.intro (fun q => ?_) (fun q => ?_)
    · have q : nI w = nI 5 := q
      have q := (nI_eq (by omega) (by decide)).mp q
      have eu : up = 5 := by rcases hw with z | z | z | z <;> omega
      rw [eu] at fin ⊢
      refine zT.step ct_X7_tells_ok ?_
      refine zT.step ct_X7_tells_ok ?_
      exact fin
    · have q : ¬ nI w = nI 5 := q
      have q : ¬ w = 5 := fun z => q (by rw [z])
      have hu : hiR w = nI up := by
        rcases hw with z | ⟨rfl, -, -, rfl⟩ | ⟨rfl, -, -, rfl⟩ | ⟨rfl, -, -, rfl⟩
        · exact absurd z.1 q
        · rfl
        · rfl
        · rfl
      refine zT.step ct_X7_tells_ok ?_
      refine zT.step ct_X7_tells_ok ?_
      refine And.intro (by omega) (zF.use (t_mostOf (by omega)) ?_)
      rw [hu]
      exact fin
  refine zT.step ct_X7_tells_ok ?_
  refine zT.step ct_X7_tells_ok ?_
  refine And.intro (fun z0 => ?_) (fun z0 => ?_)
  · have z0 : z = 0 := z0
    refine zT.step ct_X7_tells_ok ?_
    refine zT.step ct_X7_tells_ok ?_
    refine zT.step ct_X7_tells_ok ?_
    refine zT.step ct_X7_tells_ok ?_
    refine And.intro ⟨by omega, by decide, _, rfl⟩ (zC.use (t_firstOther (tl := tl) (by omega) hE hi hs g3 ha) (fun y L2 μ2 hy => ?_))
    obtain ⟨rfl, rfl, σ2, τ2, rfl, S2⟩ := hy
    refine zT.step ct_X7_tells_ok ?_
    exact And.intro (by unfold v_tell; rw [if_pos z0]) (And.intro rfl ⟨σ2, τ2, rfl, S2.sq⟩)
  have z0 : ¬ z = 0 := z0
  refine zT.step ct_X7_tells_ok ?_
  refine zT.step ct_X7_tells_ok ?_
  refine zT.step ct_X7_tells_ok ?_
  refine And.intro (fun z5 => ?_) (fun z5 => ?_)
  · have z5 : z = 5 := z5
    refine zT.step ct_X7_tells_ok ?_
    refine zT.step ct_X7_tells_ok ?_
    refine zT.step ct_X7_tells_ok ?_
    refine zT.step ct_X7_tells_ok ?_
    refine And.intro ⟨by omega, by decide, _, rfl⟩ (zC.use (t_cloudsBy (tl := tl) (by omega) hE hi hs g3 ha) (fun y L2 μ2 hy => ?_))
    obtain ⟨rfl, rfl, σ2, τ2, rfl, S2⟩ := hy
    refine zT.step ct_X7_tells_ok ?_
    exact And.intro (by unfold v_tell; rw [if_neg z0, if_neg (show ¬ z = 1 by rw [z5]; decide), if_neg (show ¬ z = 2 by rw [z5]; decide), if_neg (show ¬ z = 3 by rw [z5]; decide), if_neg (show ¬ z = 4 by rw [z5]; decide), if_pos z5]) (And.intro rfl ⟨σ2, τ2, rfl, S2.sq⟩)
  have z5 : ¬ z = 5 := z5
  refine zT.step ct_X7_tells_ok ?_
  refine zT.step ct_X7_tells_ok ?_
  refine zT.step ct_X7_tells_ok ?_
  refine And.intro (fun z1 => ?_) (fun z1 => ?_)
  · have z1 : z = 1 := z1
    refine zT.step ct_X7_tells_ok ?_
    refine zT.step ct_X7_tells_ok ?_
    exact go 5 0 0 5 (Or.inl ⟨rfl, rfl, rfl, rfl⟩) (by unfold v_tell; rw [if_neg z0, if_pos z1])
  have z1 : ¬ z = 1 := z1
  refine zT.step ct_X7_tells_ok ?_
  refine zT.step ct_X7_tells_ok ?_
  refine zT.step ct_X7_tells_ok ?_
  refine And.intro (fun z6 => ?_) (fun z6 => ?_)
  · have z6 : z = 6 := z6
    have he : v_tell a n t m i tl z = cTx (fun t' => cSo (fun h => cDu (z_up a 1 4 (nI t')) n t' h i) tl 13 0) m := by
      unfold v_tell
      rw [if_neg z0, if_neg z1, if_neg (show ¬ z = 2 by rw [z6]; decide), if_neg (show ¬ z = 3 by rw [z6]; decide), if_neg (show ¬ z = 4 by rw [z6]; decide), if_neg z5]
    rw [he, tx_rM (du := fun t' h => cDu (z_up a 1 4 (nI t')) n t' h i) hm6]
    have em : m - 1 + 1 - 0 = m := by omega
    have fin := t_tries (X := X) (d := d) (s := s) (w := 6) (lo := 0) (hi := m - 1) (b := 50) (k := 4) (τ := τ) (r := r) (tl := tl) (z := z) (A := fun v => z_up a 1 4 (nI v)) (T := fun v => v) (Q := tA σ r (rM (fun v => decide (cFo (fun h => cDu (z_up a 1 4 (nI v)) n v h i) tl 13 0 = -1)) 0 (m - 1 + 1 - 0))) (by omega) (by decide) hi h8 hs (fun σ1 v => rfl) (by decide) (by decide) (fun v v1 v2 => hE.ru (by omega)) (by omega) (by omega) rfl g3 ha (fun σ' τ' S => And.intro rfl (And.intro rfl ⟨σ', τ', rfl, S.sq⟩)) σ τ SG.rf
    rw [em] at fin
    refine zT.step ct_X7_tells_ok ?_
    refine zT.step ct_X7_tells_ok ?_
    refine zT.step ct_X7_tells_ok ?_
    refine zT.step ct_X7_tells_ok ?_
    refine zT.step ct_X7_tells_ok ?_
    refine zT.step ct_X7_tells_ok ?_
    refine And.intro (fun _ => ?_) (fun q => absurd rfl q)
    refine zT.step ct_X7_tells_ok ?_
    refine zT.step ct_X7_tells_ok ?_
    refine And.intro ⟨by decide, _, rfl⟩ ?_
    refine zT.step ct_X7_tells_ok ?_
    refine zT.step ct_X7_tells_ok ?_
    refine zT.step ct_X7_tells_ok ?_
    refine zT.step ct_X7_tells_ok ?_
    refine zT.step ct_X7_tells_ok ?_
    refine And.intro (fun _ => ?_) (fun q => absurd rfl q)
    refine zT.step ct_X7_tells_ok ?_
    refine zT.step ct_X7_tells_ok ?_
    refine And.intro ⟨by decide, _, rfl⟩ ?_
    refine zT.step ct_X7_tells_ok ?_
    refine zT.step ct_X7_tells_ok ?_
    refine zT.step ct_X7_tells_ok ?_
    show zT X d m_X7_tells _ 0 0 156 _ [.int (σ 50 3 - nI 1)] _ _
    rw [hm3, nI_sub (by omega)]
    exact fin
  have z6 : ¬ z = 6 := z6
  obtain ⟨zn, hzn, ez⟩ := rg_t (by omega) hz
  subst ez
  have d0 : zn ≠ 0 := fun e => z0 (by rw [e]; rfl)
  have d1 : zn ≠ 1 := fun e => z1 (by rw [e]; rfl)
  have d5 : zn ≠ 5 := fun e => z5 (by rw [e]; rfl)
  have d6 : zn ≠ 6 := fun e => z6 (by rw [e]; rfl)
  have : zn = 2 ∨ zn = 3 ∨ zn = 4 := by omega
  refine zT.step ct_X7_tells_ok ?_
  rcases this with rfl | rfl | rfl
  · exact go 2 1 0 9 (Or.inr (Or.inl ⟨rfl, rfl, rfl, rfl⟩)) (by unfold v_tell; rw [if_neg z0, if_neg z1, if_pos (by decide)])
  · exact go 3 2 1 20 (Or.inr (Or.inr (Or.inl ⟨rfl, rfl, rfl, rfl⟩))) (by unfold v_tell; rw [if_neg z0, if_neg z1, if_neg (by decide), if_pos (by decide)])
  · exact go 4 3 0 29 (Or.inr (Or.inr (Or.inr ⟨rfl, rfl, rfl, rfl⟩))) (by unfold v_tell; rw [if_neg z0, if_neg z1, if_neg (by decide), if_neg (by decide), if_pos (by decide)])
