/-! the reference's sheet, cell -/
/-- the same but for scratch and sheets -/
def SV (σ σ' : zSg) : Prop := (∀ b, b < 60 → b ≠ 50 → b ≠ 56 → b ≠ 57 → b ≠ 58 → σ' b = σ b) ∧ ∀ k, (k < 12 ∨ (26 < k ∧ k ≠ 31 ∧ k ≠ 32 ∧ k ≠ 33)) → σ' 50 k = σ 50 k
theorem SV.rf {σ : zSg} : SV σ σ := ⟨fun _ _ _ _ _ _ => rfl, fun _ _ => rfl⟩
theorem SV.trans {a b c : zSg} (h1 : SV a b) (h2 : SV b c) : SV a c := ⟨fun x xl x0 x6 x7 x8 => (h2.1 x xl x0 x6 x7 x8).trans (h1.1 x xl x0 x6 x7 x8), fun k hk => (h2.2 k hk).trans (h1.2 k hk)⟩
theorem SG.sv {σ σ' : zSg} (h : SG σ σ') : SV σ σ' := ⟨fun b _ b0 b6 b7 b8 => h.1 b b0 b6 b7 b8, fun k hk => h.2 k (by omega)⟩
theorem SV.up {σ : zSg} {b k : Nat} {v : Int32} (hb : 60 ≤ b) : SV σ (z_up σ b k v) := ⟨fun x xl _ _ _ _ => zu_n _ _ _ _ _ (by omega), fun _ _ => by rw [zu_n _ _ _ _ _ (by omega)]⟩
theorem RE.sv {a σ σ' : zSg} {n t m : Nat} (s : SV σ σ') (h : RE a σ n t m) : RE a σ' n t m := by
  obtain ⟨⟨h1, h2, h3, h4, h5, h6⟩, ⟨h7, h8⟩, h9, h10, h11⟩ := h
  have c := fun b b1 b2 b3 b4 b5 => s.1 b b1 b2 b3 b4 b5
  refine ⟨⟨h1, by rw [s.2 11 (by omega)]; exact h2, h3, h4, by rw [s.2 3 (by omega)]; exact h5, by rw [s.2 4 (by omega)]; exact h6⟩, ⟨by rw [s.2 7 (by omega)]; exact h7, by rw [s.2 8 (by omega)]; exact h8⟩, fun i hi => ?_, h10, fun t' ht => (h11 t' ht).mono (c 51 (by decide) (by decide) (by decide) (by decide) (by decide)) (c 52 (by decide) (by decide) (by decide) (by decide) (by decide))⟩
  rw [c 54 (by decide) (by decide) (by decide) (by decide) (by decide), c 55 (by decide) (by decide) (by decide) (by decide) (by decide)]
  exact h9 i hi
/-- the other sheets too -/
def SO (s : Nat) (σ σ' : zSg) : Prop := SV σ σ' ∧ ∀ u, u < 4 → u ≠ s → σ' 60 u = σ 60 u ∧ σ' 61 u = σ 61 u ∧ σ' 62 u = σ 62 u ∧ ∀ i, i < 40 → σ' 63 (40 * u + i) = σ 63 (40 * u + i)
theorem SO.rf {s : Nat} {σ : zSg} : SO s σ σ := ⟨SV.rf, fun _ _ _ => ⟨rfl, rfl, rfl, fun _ _ => rfl⟩⟩
theorem SO.trans {s : Nat} {a b c : zSg} (h1 : SO s a b) (h2 : SO s b c) : SO s a c := ⟨h1.1.trans h2.1, fun u hu hs => ⟨(h2.2 u hu hs).1.trans (h1.2 u hu hs).1, (h2.2 u hu hs).2.1.trans (h1.2 u hu hs).2.1, (h2.2 u hu hs).2.2.1.trans (h1.2 u hu hs).2.2.1, fun i hi => ((h2.2 u hu hs).2.2.2 i hi).trans ((h1.2 u hu hs).2.2.2 i hi)⟩⟩
theorem SG.so {s : Nat} {σ σ' : zSg} (h : SG σ σ') : SO s σ σ' := ⟨h.sv, fun u _ _ => by rw [h.1 60 (by decide) (by decide) (by decide) (by decide), h.1 61 (by decide) (by decide) (by decide) (by decide), h.1 62 (by decide) (by decide) (by decide) (by decide), h.1 63 (by decide) (by decide) (by decide) (by decide)]; exact ⟨rfl, rfl, rfl, fun _ _ => rfl⟩⟩
theorem SO.u60 {s b : Nat} {σ : zSg} {v : Int32} (hb : b = 60 ∨ b = 61 ∨ b = 62) : SO s σ (z_up σ b s v) := by
  refine ⟨SV.up (by omega), fun u hu hs => ⟨z_up_n _ _ _ _ _ _ (fun z => hs z.2), z_up_n _ _ _ _ _ _ (fun z => hs z.2), z_up_n _ _ _ _ _ _ (fun z => hs z.2), fun i hi => z_up_n _ _ _ _ _ _ (fun z => by omega)⟩⟩
theorem SO.u63 {s i : Nat} {σ : zSg} {v : Int32} (hi : i < 40) : SO s σ (z_up σ 63 (40 * s + i) v) := by
  refine ⟨SV.up (by omega), fun u hu hs => ⟨z_up_n _ _ _ _ _ _ (fun z => by omega), z_up_n _ _ _ _ _ _ (fun z => by omega), z_up_n _ _ _ _ _ _ (fun z => by omega), fun j hj => zu_k _ _ _ _ _ (by omega)⟩⟩
/-- sheet s of the class a is the reference's -/
def SH1 (a σ : zSg) (s : Nat) : Prop := (a (42 + 2 * s) 1 = -1 ∧ σ 60 s = 0) ∨ ∃ so sz, so < 3 ∧ sz ≤ 40 ∧ a (42 + 2 * s) 1 = nI so ∧ a (42 + 2 * s) 2 = nI sz ∧ σ 60 s = 1 ∧ σ 61 s = nI so ∧ σ 62 s = nI sz ∧ ∀ i, i < sz → σ 63 (40 * s + i) = a (43 + 2 * s) i
theorem SH.chg {a a' σ σ' : zSg} {s : Nat} (hS : SH a σ) (ho : SO s σ σ') (ha : ∀ u, u < 4 → u ≠ s → a' (42 + 2 * u) = a (42 + 2 * u) ∧ a' (43 + 2 * u) = a (43 + 2 * u)) (h1 : SH1 a' σ' s) : SH a' σ' := by
  intro u hu
  by_cases q : u = s
  · rw [q]; exact h1
  · obtain ⟨o1, o2, o3, o4⟩ := ho.2 u hu q
    rw [(ha u hu q).1, (ha u hu q).2, o1, o2, o3]
    rcases hS u hu with h | ⟨so, sz, hso, hsz, e1, e2, g0, g1, g2, g3⟩
    · exact Or.inl h
    · exact Or.inr ⟨so, sz, hso, hsz, e1, e2, g0, g1, g2, fun i hi => (o4 i (by omega)).trans (g3 i hi)⟩
theorem t_sheet {X : zXs} {d : Nat} {a σ : zSg} {τ : Nat → Nat → Int64} {r : Option Nat} {x y z : Int32} (hd : 2 ≤ d) (hS : SH a σ) : zC X d 0 0 m_X7_sheet [.ref 50, .int x, .int y, .int z] L0 (mm σ τ r) (fun w L2 μ2 => w = some (.int (v_sheet x y z)) ∧ L2 = L0 ∧ ∃ σ', μ2 = mm σ' τ r ∧ SH (u_sheet a x y z) σ' ∧ (k_sheet x y z = 0 ∨ k_sheet x y z = 2 → σ' = σ) ∧ SO x.toNatClampNeg σ σ') := by
  have bad : k_sheet x y z = 0 → zT X d m_X7_sheet (fun w L2 μ2 => w = some (.int (v_sheet x y z)) ∧ L2 = L0 ∧ ∃ σ', μ2 = mm σ' τ r ∧ SH (u_sheet a x y z) σ' ∧ (k_sheet x y z = 0 ∨ k_sheet x y z = 2 → σ' = σ) ∧ SO x.toNatClampNeg σ σ') 0 0 31 [some (.ref 50), some (.int x), some (.int y), some (.int z), none] [] L0 (mm σ τ r) := by
    intro h
    refine zT.step ct_X7_sheet_ok ?_
    refine zT.step ct_X7_sheet_ok ?_
    refine And.intro (by unfold v_sheet; rw [h]; rfl) (And.intro rfl ⟨σ, rfl, ?_, fun _ => rfl, SO.rf⟩)
    unfold u_sheet
    rw [h]
    exact hS
  refine zC.of mk_X7_sheet rfl ?_
  refine zT.step ct_X7_sheet_ok ?_
  refine zT.step ct_X7_sheet_ok ?_
  refine And.intro (by omega) (zF.use (t_isSheet (by omega)) ?_)
  refine zT.step ct_X7_sheet_ok ?_
  refine And.intro (fun q => bad (by unfold k_sheet; rw [fb0 q]; rfl)) (fun q => ?_)
  have hx := fb1 q
  refine zT.step ct_X7_sheet_ok ?_
  refine zT.step ct_X7_sheet_ok ?_
  refine zT.step ct_X7_sheet_ok ?_
  refine zT.step ct_X7_sheet_ok ?_
  refine zT.step ct_X7_sheet_ok ?_
  refine And.intro (by omega) (zF.use (t_inI (a := -1) (b := 2) (by decide) (by decide)) ?_)
  refine zT.step ct_X7_sheet_ok ?_
  refine And.intro (fun q => bad ?_) (fun q => ?_)
  · rcases not_in (of_decide_eq_false (fb0 q)) with h | h
    · unfold k_sheet; rw [hx, decide_eq_true h]; rfl
    · unfold k_sheet; rw [hx, decide_eq_true h, Bool.or_true]; rfl
  have q1 := of_decide_eq_true (fb1 q)
  have hk : k_sheet x y z = if y = -1 then 1 else if 40 < z then 0 else if z < 0 then 2 else 3 := by
    unfold k_sheet
    rw [hx, decide_eq_false (Int32.not_lt.mpr q1.1), decide_eq_false (Int32.not_lt.mpr q1.2)]
    rfl
  obtain ⟨s, hs, rfl⟩ := rg_t (by omega) hx
  have hm1 : y < 0 → y = -1 := by
    intro h
    have h := Int32.lt_iff_toInt_lt.mp h
    have h2 := Int32.le_iff_toInt_le.mp q1.1
    have e0 : (0 : Int32).toInt = 0 := by decide
    have e1 : (-1 : Int32).toInt = -1 := by decide
    rw [e0] at h
    rw [e1] at h2
    exact Int32.toInt_inj.mp (by rw [e1]; omega)
  -- what is written
  have loop : ∀ (m i : Nat) (zn : Nat) (σ1 : zSg), z = nI zn → zn ≤ 40 → i + m = zn → ¬ y < 0 → k_sheet (nI s) y z = 3 → SO s σ σ1 → σ1 60 s = 1 → σ1 61 s = y → σ1 62 s = z → (∀ j, j < i → σ1 63 (40 * s + j) = 0) → zT X d m_X7_sheet (fun w L2 μ2 => w = some (.int (v_sheet (nI s) y z)) ∧ L2 = L0 ∧ ∃ σ', μ2 = mm σ' τ r ∧ SH (u_sheet a (nI s) y z) σ' ∧ (k_sheet (nI s) y z = 0 ∨ k_sheet (nI s) y z = 2 → σ' = σ) ∧ SO (nI s).toNatClampNeg σ σ') 0 0 77 [some (.ref 50), some (.int (nI s)), some (.int y), some (.int z), some (.int (nI i))] [] L0 (mm σ1 τ r) := by
    intro m
    induction m with
    | zero =>
      intro i zn σ1 hz hz40 hi hy hk3 ho o0 o1 o2 o3
      have hi : i = zn := by omega
      subst hi
      subst hz
      obtain ⟨yn, hy3, rfl⟩ := nI_of2 (x := y) (M := 2) (n := 2) (by decide) hy q1.2
      refine zT.step ct_X7_sheet_ok ?_
      refine zT.step ct_X7_sheet_ok ?_
      refine zT.step ct_X7_sheet_ok ?_
      refine And.intro (fun _ => ?_) (fun q => absurd (Int32.le_refl (nI i)) q)
      refine zT.step ct_X7_sheet_ok ?_
      refine zT.step ct_X7_sheet_ok ?_
      refine And.intro (by unfold v_sheet; rw [hk3]; rfl) (And.intro rfl ⟨σ1, rfl, ?_, fun z => by omega, by rw [nI_clamp (by omega)]; exact ho⟩)
      have eu : u_sheet a (nI s) (nI yn) (nI i) = u_become a s (nI yn) (nI i) := by unfold u_sheet; rw [hk3, nI_clamp (by omega)]; rfl
      rw [eu]
      unfold u_become
      refine hS.chg ho (fun u hu hus => ⟨z_shw_o _ _ _ _ _ _ (by omega) (by omega), z_shw_o _ _ _ _ _ _ (by omega) (by omega)⟩) (Or.inr ⟨yn, i, by omega, by omega, z_shw_1 _ _ _ _ _, z_shw_2 _ _ _ _ _, o0, o1, o2, fun j hj => ?_⟩)
      rw [z_shw_n, o3 j hj]
      exact (if_pos (show j < 40 by omega)).symm
    | succ m ih =>
      intro i zn σ1 hz hz40 hi hy hk3 ho o0 o1 o2 o3
      refine zT.step ct_X7_sheet_ok ?_
      refine zT.step ct_X7_sheet_ok ?_
      refine zT.step ct_X7_sheet_ok ?_
      refine And.intro (fun q => ?_) (fun _ => ?_)
      · have q : z ≤ nI i := q
        rw [hz] at q
        exact absurd q (nI_ge (show i < zn by omega) (by omega))
      refine zT.step ct_X7_sheet_ok ?_
      refine zT.step ct_X7_sheet_ok ?_
      refine And.intro (fun q => absurd q hy) (fun _ => ?_)
      refine zT.step ct_X7_sheet_ok ?_
      refine zT.step ct_X7_sheet_ok ?_
      refine And.intro ⟨by decide, _, rfl⟩ ?_
      refine zT.step ct_X7_sheet_ok ?_
      refine zT.step ct_X7_sheet_ok ?_
      refine zT.step ct_X7_sheet_ok ?_
      refine zT.step ct_X7_sheet_ok ?_
      refine zT.step ct_X7_sheet_ok ?_
      refine zT.step ct_X7_sheet_ok ?_
      refine zT.step ct_X7_sheet_ok ?_
      refine Exists.intro (40 * s + i) (And.intro ⟨?_, by decide, 160, rfl, by omega, by decide⟩ ?_)
      · show nI 40 * nI s + nI i = _
        rw [nI_mulN, nI_add]
      refine zT.step ct_X7_sheet_ok ?_
      refine zT.step ct_X7_sheet_ok ?_
      rw [nI_1]
      refine ih (i + 1) zn (z_up σ1 63 (40 * s + i) 0) hz hz40 (by omega) hy hk3 (ho.trans (SO.u63 (by omega))) (by rw [zu_n _ _ _ _ _ (by decide)]; exact o0) (by rw [zu_n _ _ _ _ _ (by decide)]; exact o1) (by rw [zu_n _ _ _ _ _ (by decide)]; exact o2) (fun j hj => ?_)
      by_cases q : j = i
      · rw [q, z_up_s]
      · rw [zu_k _ _ _ _ _ (by omega)]; exact o3 j (by omega)
  have write : ∀ v : Int32, (v = 0 ∨ v = 1) → (∀ σ1, SO s σ σ1 → σ1 60 s = v → σ1 61 s = y → σ1 62 s = z → zT X d m_X7_sheet (fun w L2 μ2 => w = some (.int (v_sheet (nI s) y z)) ∧ L2 = L0 ∧ ∃ σ', μ2 = mm σ' τ r ∧ SH (u_sheet a (nI s) y z) σ' ∧ (k_sheet (nI s) y z = 0 ∨ k_sheet (nI s) y z = 2 → σ' = σ) ∧ SO (nI s).toNatClampNeg σ σ') 0 0 77 [some (.ref 50), some (.int (nI s)), some (.int y), some (.int z), some (.int (nI 0))] [] L0 (mm σ1 τ r)) → zT X d m_X7_sheet (fun w L2 μ2 => w = some (.int (v_sheet (nI s) y z)) ∧ L2 = L0 ∧ ∃ σ', μ2 = mm σ' τ r ∧ SH (u_sheet a (nI s) y z) σ' ∧ (k_sheet (nI s) y z = 0 ∨ k_sheet (nI s) y z = 2 → σ' = σ) ∧ SO (nI s).toNatClampNeg σ σ') 0 0 59 [some (.ref 50), some (.int (nI s)), some (.int y), some (.int z), none] [.int v, .int (nI s), .ref 60] L0 (mm σ τ r) := by
    intro v hv K
    refine zT.step ct_X7_sheet_ok ?_
    refine Exists.intro s (And.intro ⟨⟨rfl, by decide, 4, rfl, hs, by decide⟩, hv⟩ ?_)
    refine zT.step ct_X7_sheet_ok ?_
    refine zT.step ct_X7_sheet_ok ?_
    refine And.intro ⟨by decide, _, rfl⟩ ?_
    refine zT.step ct_X7_sheet_ok ?_
    refine zT.step ct_X7_sheet_ok ?_
    refine zT.step ct_X7_sheet_ok ?_
    refine Exists.intro s (And.intro ⟨rfl, by decide, 4, rfl, hs, by decide⟩ ?_)
    refine zT.step ct_X7_sheet_ok ?_
    refine zT.step ct_X7_sheet_ok ?_
    refine And.intro ⟨by decide, _, rfl⟩ ?_
    refine zT.step ct_X7_sheet_ok ?_
    refine zT.step ct_X7_sheet_ok ?_
    refine zT.step ct_X7_sheet_ok ?_
    refine Exists.intro s (And.intro ⟨rfl, by decide, 4, rfl, hs, by decide⟩ ?_)
    refine zT.step ct_X7_sheet_ok ?_
    refine zT.step ct_X7_sheet_ok ?_
    refine K (z_up (z_up (z_up σ 60 s v) 61 s y) 62 s z) (((SO.u60 (Or.inl rfl)).trans (SO.u60 (Or.inr (Or.inl rfl)))).trans (SO.u60 (Or.inr (Or.inr rfl)))) ?_ ?_ ?_
    · rw [zu_n _ _ _ _ _ (by decide), zu_n _ _ _ _ _ (by decide), z_up_s]
    · rw [zu_n _ _ _ _ _ (by decide), z_up_s]
    · rw [z_up_s]
  have none_ : y < 0 → zT X d m_X7_sheet (fun w L2 μ2 => w = some (.int (v_sheet (nI s) y z)) ∧ L2 = L0 ∧ ∃ σ', μ2 = mm σ' τ r ∧ SH (u_sheet a (nI s) y z) σ' ∧ (k_sheet (nI s) y z = 0 ∨ k_sheet (nI s) y z = 2 → σ' = σ) ∧ SO (nI s).toNatClampNeg σ σ') 0 0 45 [some (.ref 50), some (.int (nI s)), some (.int y), some (.int z), none] [] L0 (mm σ τ r) := by
    intro hy
    have k1 : k_sheet (nI s) y z = 1 := by rw [hk, if_pos (hm1 hy)]
    have fin : ∀ σ1, SO s σ σ1 → σ1 60 s = 0 → zT X d m_X7_sheet (fun w L2 μ2 => w = some (.int (v_sheet (nI s) y z)) ∧ L2 = L0 ∧ ∃ σ', μ2 = mm σ' τ r ∧ SH (u_sheet a (nI s) y z) σ' ∧ (k_sheet (nI s) y z = 0 ∨ k_sheet (nI s) y z = 2 → σ' = σ) ∧ SO (nI s).toNatClampNeg σ σ') 0 0 106 [some (.ref 50), some (.int (nI s)), some (.int y), some (.int z), some (.int (nI 0))] [] L0 (mm σ1 τ r) := by
      intro σ1 ho o0
      refine zT.step ct_X7_sheet_ok ?_
      refine zT.step ct_X7_sheet_ok ?_
      refine And.intro (by unfold v_sheet; rw [k1]; rfl) (And.intro rfl ⟨σ1, rfl, ?_, fun z => by omega, by rw [nI_clamp (by omega)]; exact ho⟩)
      have eu : u_sheet a (nI s) y z = u_become a s (-1) 0 := by unfold u_sheet; rw [k1, nI_clamp (by omega)]; rfl
      rw [eu]
      unfold u_become
      exact hS.chg ho (fun u hu hus => ⟨z_shw_o _ _ _ _ _ _ (by omega) (by omega), z_shw_o _ _ _ _ _ _ (by omega) (by omega)⟩) (Or.inl ⟨z_shw_1 _ _ _ _ _, o0⟩)
    refine zT.step ct_X7_sheet_ok ?_
    refine zT.step ct_X7_sheet_ok ?_
    refine And.intro ⟨by decide, _, rfl⟩ ?_
    refine zT.step ct_X7_sheet_ok ?_
    refine zT.step ct_X7_sheet_ok ?_
    refine zT.step ct_X7_sheet_ok ?_
    refine And.intro (fun _ => ?_) (fun q => absurd hy q)
    refine zT.step ct_X7_sheet_ok ?_
    refine write 0 (Or.inl rfl) (fun σ1 ho o0 o1 o2 => ?_)
    refine zT.step ct_X7_sheet_ok ?_
    refine zT.step ct_X7_sheet_ok ?_
    refine zT.step ct_X7_sheet_ok ?_
    refine And.intro (fun _ => fin σ1 ho o0) (fun _ => ?_)
    refine zT.step ct_X7_sheet_ok ?_
    refine zT.step ct_X7_sheet_ok ?_
    exact And.intro (fun _ => fin σ1 ho o0) (fun q => absurd hy q)
  refine zT.step ct_X7_sheet_ok ?_
  refine zT.step ct_X7_sheet_ok ?_
  refine And.intro (fun q => ?_) (fun q => ?_)
  · have q : y < 0 := q
    refine zT.step ct_X7_sheet_ok ?_
    refine zT.step ct_X7_sheet_ok ?_
    exact And.intro (fun _ => none_ q) (fun z => absurd q z)
  have hy : ¬ y < 0 := q
  have ny : ¬ y = -1 := fun z => hy (by rw [z]; decide)
  rw [if_neg ny] at hk
  refine zT.step ct_X7_sheet_ok ?_
  refine zT.step ct_X7_sheet_ok ?_
  refine zT.step ct_X7_sheet_ok ?_
  refine And.intro (fun q => ?_) (fun q => bad (by rw [hk, if_pos (Int32.not_le.mp q)]))
  have q40 : z ≤ 40 := q
  rw [if_neg (Int32.not_lt.mpr q40)] at hk
  refine zT.step ct_X7_sheet_ok ?_
  refine zT.step ct_X7_sheet_ok ?_
  refine And.intro (fun z => absurd z hy) (fun _ => ?_)
  refine zT.step ct_X7_sheet_ok ?_
  refine zT.step ct_X7_sheet_ok ?_
  refine And.intro (fun q => ?_) (fun q => ?_)
  · have q : 0 ≤ z := q
    have hz : ¬ z < 0 := Int32.not_lt.mpr q
    rw [if_neg hz] at hk
    obtain ⟨zn, hzn, ez⟩ := nI_of2 (x := z) (M := 40) (n := 40) (by decide) hz q40
    refine zT.step ct_X7_sheet_ok ?_
    refine zT.step ct_X7_sheet_ok ?_
    refine And.intro ⟨by decide, _, rfl⟩ ?_
    refine zT.step ct_X7_sheet_ok ?_
    refine zT.step ct_X7_sheet_ok ?_
    refine zT.step ct_X7_sheet_ok ?_
    refine And.intro (fun z => absurd z hy) (fun _ => ?_)
    refine zT.step ct_X7_sheet_ok ?_
    refine zT.step ct_X7_sheet_ok ?_
    refine write 1 (Or.inr rfl) (fun σ1 ho o0 o1 o2 => ?_)
    exact loop zn 0 zn σ1 ez hzn (by omega) hy hk ho o0 o1 o2 (fun j hj => by omega)
  · have q : z < 0 := Int32.not_le.mp q
    rw [if_pos q] at hk
    refine zT.step ct_X7_sheet_ok ?_
    refine zT.step ct_X7_sheet_ok ?_
    refine And.intro (by unfold v_sheet; rw [hk]; rfl) (And.intro rfl ⟨σ, rfl, ?_, fun _ => rfl, SO.rf⟩)
    unfold u_sheet
    rw [hk]
    exact hS
