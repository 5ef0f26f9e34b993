/-! the reference hour by hour: dueOf, takesAll, takesDay, hour, takes, dark, apart, hours -/
/-- the same but for what the reference's questions write, who is nowhere among it -/
def SZ (σ σ' : zSg) : Prop := (∀ b, b ≠ 50 → b ≠ 56 → b ≠ 57 → b ≠ 58 → σ' b = σ b) ∧ ∀ k, (k < 12 ∨ (27 < k ∧ k ≠ 31 ∧ k ≠ 32 ∧ k ≠ 33)) → σ' 50 k = σ 50 k
theorem SZ.rf {σ : zSg} : SZ σ σ := ⟨fun _ _ _ _ _ => rfl, fun _ _ => rfl⟩
theorem SZ.trans {a b c : zSg} (h1 : SZ a b) (h2 : SZ b c) : SZ a c := ⟨fun x x0 x6 x7 x8 => (h2.1 x x0 x6 x7 x8).trans (h1.1 x x0 x6 x7 x8), fun k hk => (h2.2 k hk).trans (h1.2 k hk)⟩
theorem SG.sz {σ σ' : zSg} (h : SG σ σ') : SZ σ σ' := ⟨h.1, fun k hk => h.2 k (by omega)⟩
theorem SZ.up {σ : zSg} {k : Nat} {v : Int32} (h : k = 27 ∨ k = 32 ∨ k = 33) : SZ σ (z_up σ 50 k v) := ⟨fun b b0 _ _ _ => zu_n _ _ _ _ _ b0, fun j hj => zu_k _ _ _ _ _ (by omega)⟩
theorem RE.sz {a σ σ' : zSg} {n t m : Nat} (s : SZ σ σ') (h : RE a σ n t m) : RE a σ' n t m := by
  obtain ⟨⟨h1, h2, h3, h4, h5, h6⟩, ⟨h7, h8⟩, h9, h10, h11⟩ := h
  refine ⟨⟨h1, by rw [s.2 11 (by omega)]; exact h2, h3, h4, by rw [s.2 3 (by omega)]; exact h5, by rw [s.2 4 (by omega)]; exact h6⟩, ⟨by rw [s.2 7 (by omega)]; exact h7, by rw [s.2 8 (by omega)]; exact h8⟩, fun i hi => ?_, h10, fun t' ht => (h11 t' ht).mono (s.1 51 (by decide) (by decide) (by decide) (by decide)) (s.1 52 (by decide) (by decide) (by decide) (by decide))⟩
  rw [s.1 54 (by decide) (by decide) (by decide) (by decide), s.1 55 (by decide) (by decide) (by decide) (by decide)]
  exact h9 i hi
/-- the same but for scratch -/
def SQ (σ σ' : zSg) : Prop := SZ σ σ' ∧ σ' 50 27 = σ 50 27
theorem SQ.rf {σ : zSg} : SQ σ σ := ⟨SZ.rf, rfl⟩
theorem SQ.trans {a b c : zSg} (h1 : SQ a b) (h2 : SQ b c) : SQ a c := ⟨h1.1.trans h2.1, h2.2.trans h1.2⟩
theorem SG.sq {σ σ' : zSg} (h : SG σ σ') : SQ σ σ' := ⟨h.sz, h.2 27 (by omega)⟩
def tA (σ : zSg) (r : Option Nat) (v : Int32) : zRQ := fun w L2 μ2 => w = some (.int v) ∧ L2 = L0 ∧ ∃ σ' τ', μ2 = mm σ' τ' r ∧ SQ σ σ'
def dA (a : zSg) (n t h : Nat) (aw : Int32) (i : Nat) : Int32 := if nI i = aw then 0 else f_due (cS a n t h aw).1 (cD a t h) i
def sumN (g : Nat → Int32) : Nat → Int32
  | 0 => 0
  | k + 1 => sumN g k + g k
theorem sumN_c {g g' : Nat → Int32} : ∀ k, (∀ i, i < k → g i = g' i) → sumN g k = sumN g' k := by
  intro k
  induction k with
  | zero => intro _; rfl
  | succ k ih => intro h; show sumN g k + g k = sumN g' k + g' k; rw [ih (fun i hi => h i (by omega)), h k (by omega)]
theorem f_all_s (hd : Int32) (du : Nat → Int32) : ∀ k, f_all hd du k = sumN (f_due hd du) k := by
  intro k
  induction k with
  | zero => rfl
  | succ k ih => show f_all hd du k + _ = sumN _ k + _; rw [ih]
theorem nI_m1 {i : Nat} (hi : i < 8) : ¬ nI i = -1 := fun q => by
  have := nI_pos' (n := i) (by omega)
  rw [q] at this
  exact absurd this (by decide)
theorem du_eq {a : zSg} {n t h i : Nat} (hi : i < 8) : dA a n t h (-1) i = cDu a n t h i := if_neg (nI_m1 hi)
theorem al_eq {a : zSg} {n t h : Nat} (hn : n ≤ 8) : sumN (dA a n t h (-1)) n = cAl a n t h := by
  unfold cAl
  rw [f_all_s]
  exact sumN_c n (fun i hi => du_eq (by omega))
theorem GA.due {a σ' : zSg} {n t h i : Nat} {aw : Int32} (hn : n ≤ 8) (H : GA a σ' n t h aw) (hi : i < n) : σ' 58 i = dA a n t h aw i := by
  unfold dA
  by_cases q : nI i = aw
  · rw [if_pos q]
    exact ((H.2 i hi).2 (fun z => z q)).2.2.1
  · rw [if_neg q, due_b (by omega)]
    exact ((H.2 i hi).1 q).2.2
theorem wo_eq {a : zSg} {n t h x i : Nat} (hn : n ≤ 8) (hx : x < n) (hi : i < n) (hb : bt (cS a n t h (nI x)).1 x = false) : f_due (cWo a n t h x) (cD a t h) i = dA a n t h (nI x) i := by
  unfold dA cWo
  rw [due_b (by omega), b_or, b_w (by omega) (by omega)]
  by_cases q : i = x
  · rw [if_pos (by rw [q]), decide_eq_true q, Bool.or_true]; rfl
  · rw [if_neg (fun z => q ((nI_eq (by omega) (by omega)).mp z)), decide_eq_false q, Bool.or_false, due_b (by omega)]
theorem t_takesAll {X : zXs} {d n t m h : Nat} {a σ : zSg} {τ : Nat → Nat → Int64} {r : Option Nat} {aw : Int32} (hd : 55 ≤ d) (hE : RE a σ n t m) (hh : h < 13) (ha : σ 50 27 = aw) : zC X d 0 0 m_X7_takesAll [.ref 50, .int (nI h)] L0 (mm σ τ r) (fun y L2 μ2 => y = some (.int (sumN (dA a n t h aw) n)) ∧ L2 = L0 ∧ ∃ σ' τ', μ2 = mm σ' τ' r ∧ SG σ σ' ∧ GA a σ' n t h aw) := by
  have h8 := hE.1.1
  refine zC.of mk_X7_takesAll rfl ?_
  refine zT.step ct_X7_takesAll_ok ?_
  refine zT.step ct_X7_takesAll_ok ?_
  refine zT.step ct_X7_takesAll_ok ?_
  refine And.intro ⟨by omega, by decide, _, rfl⟩ (zC.use (t_gathers (by omega) hE hh ha) (fun y L2 μ2 hy => ?_))
  obtain ⟨rfl, rfl, σ1, τ1, rfl, S, G⟩ := hy
  have mny : σ1 50 11 = nI n := (S.2 11 (by omega)).trans hE.1.2.1
  have lp : ∀ (m x : Nat), x + m = n → zT X d m_X7_takesAll (fun y L2 μ2 => y = some (.int (sumN (dA a n t h aw) n)) ∧ L2 = L0 ∧ ∃ σ' τ', μ2 = mm σ' τ' r ∧ SG σ σ' ∧ GA a σ' n t h aw) 0 0 9 [some (.ref 50), some (.int (nI h)), some (.int (sumN (dA a n t h aw) x)), some (.int (nI x))] [] L0 (mm σ1 τ1 r) := by
    intro m
    induction m with
    | zero =>
      intro x hx
      have hx : x = n := by omega
      subst hx
      refine zT.step ct_X7_takesAll_ok ?_
      refine zT.step ct_X7_takesAll_ok ?_
      refine zT.step ct_X7_takesAll_ok ?_
      refine And.intro ⟨by decide, _, rfl⟩ ?_
      refine zT.step ct_X7_takesAll_ok ?_
      refine And.intro (fun _ => ?_) (fun q => ?_)
      · refine zT.step ct_X7_takesAll_ok ?_
        refine zT.step ct_X7_takesAll_ok ?_
        exact And.intro rfl (And.intro rfl ⟨σ1, τ1, rfl, S, G⟩)
      · have q : ¬ σ1 50 11 ≤ nI x := q
        rw [mny] at q
        exact absurd (nI_le (Nat.le_refl x) (by omega)) q
    | succ m ih =>
      intro x hx
      refine zT.step ct_X7_takesAll_ok ?_
      refine zT.step ct_X7_takesAll_ok ?_
      refine zT.step ct_X7_takesAll_ok ?_
      refine And.intro ⟨by decide, _, rfl⟩ ?_
      refine zT.step ct_X7_takesAll_ok ?_
      refine And.intro (fun q => ?_) (fun _ => ?_)
      · have q : σ1 50 11 ≤ nI x := q
        rw [mny] at q
        exact absurd q (nI_ge (show x < n by omega) (by omega))
      refine zT.step ct_X7_takesAll_ok ?_
      refine zT.step ct_X7_takesAll_ok ?_
      refine zT.step ct_X7_takesAll_ok ?_
      refine And.intro ⟨by decide, _, rfl⟩ ?_
      refine zT.step ct_X7_takesAll_ok ?_
      refine zT.step ct_X7_takesAll_ok ?_
      refine Exists.intro x (And.intro ⟨rfl, by decide, 8, rfl, by omega, by decide⟩ ?_)
      show zT X d m_X7_takesAll _ 0 0 24 _ [.int (σ1 58 x), .int (sumN (dA a n t h aw) x)] _ _
      rw [G.due h8 (by omega)]
      refine zT.step ct_X7_takesAll_ok ?_
      refine zT.step ct_X7_takesAll_ok ?_
      refine zT.step ct_X7_takesAll_ok ?_
      refine zT.step ct_X7_takesAll_ok ?_
      rw [nI_1]
      exact ih (x + 1) (by omega)
  refine zT.step ct_X7_takesAll_ok ?_
  refine zT.step ct_X7_takesAll_ok ?_
  refine zT.step ct_X7_takesAll_ok ?_
  refine zT.step ct_X7_takesAll_ok ?_
  exact lp n 0 (by omega)
theorem t_dueOf {X : zXs} {d n t m h x : Nat} {a σ : zSg} {τ : Nat → Nat → Int64} {r : Option Nat} {aw : Int32} (hd : 55 ≤ d) (hE : RE a σ n t m) (hh : h < 13) (hx : x < n) (ha : σ 50 27 = aw) : zC X d 0 0 m_X7_dueOf [.ref 50, .int (nI x), .int (nI h)] L0 (mm σ τ r) (fun y L2 μ2 => y = some (.int (dA a n t h aw x)) ∧ L2 = L0 ∧ ∃ σ' τ', μ2 = mm σ' τ' r ∧ SG σ σ' ∧ GA a σ' n t h aw) := by
  have h8 := hE.1.1
  refine zC.of mk_X7_dueOf rfl ?_
  refine zT.step ct_X7_dueOf_ok ?_
  refine zT.step ct_X7_dueOf_ok ?_
  refine zT.step ct_X7_dueOf_ok ?_
  refine And.intro ⟨by omega, by decide, _, rfl⟩ (zC.use (t_gathers (by omega) hE hh ha) (fun y L2 μ2 hy => ?_))
  obtain ⟨rfl, rfl, σ1, τ1, rfl, S, G⟩ := hy
  refine zT.step ct_X7_dueOf_ok ?_
  refine zT.step ct_X7_dueOf_ok ?_
  refine And.intro ⟨by decide, _, rfl⟩ ?_
  refine zT.step ct_X7_dueOf_ok ?_
  refine zT.step ct_X7_dueOf_ok ?_
  refine Exists.intro x (And.intro ⟨rfl, by decide, 8, rfl, by omega, by decide⟩ ?_)
  refine zT.step ct_X7_dueOf_ok ?_
  exact And.intro (congrArg (fun z => some (Value.int z)) (G.due h8 hx)) (And.intro rfl ⟨σ1, τ1, rfl, S, G⟩)
/-- with everybody there -/
theorem t_takesAll1 {X : zXs} {d n t m h : Nat} {a σ : zSg} {τ : Nat → Nat → Int64} {r : Option Nat} (hd : 55 ≤ d) (hE : RE a σ n t m) (hh : h < 13) (ha : σ 50 27 = -1) : zC X d 0 0 m_X7_takesAll [.ref 50, .int (nI h)] L0 (mm σ τ r) (fun y L2 μ2 => y = some (.int (cAl a n t h)) ∧ L2 = L0 ∧ ∃ σ' τ', μ2 = mm σ' τ' r ∧ SG σ σ' ∧ GA a σ' n t h (-1)) := by
  have := t_takesAll (X := X) (d := d) (τ := τ) (r := r) hd hE hh ha
  rw [al_eq hE.1.1] at this
  exact this
theorem t_dueOf1 {X : zXs} {d n t m h x : Nat} {a σ : zSg} {τ : Nat → Nat → Int64} {r : Option Nat} (hd : 55 ≤ d) (hE : RE a σ n t m) (hh : h < 13) (hx : x < n) (ha : σ 50 27 = -1) : zC X d 0 0 m_X7_dueOf [.ref 50, .int (nI x), .int (nI h)] L0 (mm σ τ r) (fun y L2 μ2 => y = some (.int (cDu a n t h x)) ∧ L2 = L0 ∧ ∃ σ' τ', μ2 = mm σ' τ' r ∧ SG σ σ' ∧ GA a σ' n t h (-1)) := by
  have := t_dueOf (X := X) (d := d) (τ := τ) (r := r) hd hE hh hx ha
  rw [du_eq (by have := hE.1.1; omega)] at this
  exact this
theorem t_takesDay {X : zXs} {d n t m : Nat} {a σ : zSg} {τ : Nat → Nat → Int64} {r : Option Nat} (hd : 56 ≤ d) (hE : RE a σ n t m) (ha : σ 50 27 = -1) : zC X d 0 0 m_X7_takesDay [.ref 50] L0 (mm σ τ r) (fun y L2 μ2 => y = some (.int (cDay a n t 13)) ∧ L2 = L0 ∧ ∃ σ' τ', μ2 = mm σ' τ' r ∧ SG σ σ') := by
  have lp : ∀ (m' h : Nat) (σ1 : zSg) (τ1 : Nat → Nat → Int64), h + m' = 13 → SG σ σ1 → zT X d m_X7_takesDay (fun y L2 μ2 => y = some (.int (cDay a n t 13)) ∧ L2 = L0 ∧ ∃ σ' τ', μ2 = mm σ' τ' r ∧ SG σ σ') 0 0 4 [some (.ref 50), some (.int (cDay a n t h)), some (.int (nI h))] [] L0 (mm σ1 τ1 r) := by
    intro m'
    induction m' with
    | zero =>
      intro h σ1 τ1 hh S
      have hh : h = 13 := by omega
      subst hh
      refine zT.step ct_X7_takesDay_ok ?_
      refine zT.step ct_X7_takesDay_ok ?_
      refine zT.step ct_X7_takesDay_ok ?_
      refine And.intro (fun _ => ?_) (fun q => absurd (by decide) q)
      refine zT.step ct_X7_takesDay_ok ?_
      refine zT.step ct_X7_takesDay_ok ?_
      exact And.intro rfl (And.intro rfl ⟨σ1, τ1, rfl, S⟩)
    | succ m' ih =>
      intro h σ1 τ1 hh S
      refine zT.step ct_X7_takesDay_ok ?_
      refine zT.step ct_X7_takesDay_ok ?_
      refine zT.step ct_X7_takesDay_ok ?_
      refine And.intro (fun q => absurd q (nI_ge (show h < 13 by omega) (by decide))) (fun _ => ?_)
      refine zT.step ct_X7_takesDay_ok ?_
      refine zT.step ct_X7_takesDay_ok ?_
      refine zT.step ct_X7_takesDay_ok ?_
      refine zT.step ct_X7_takesDay_ok ?_
      refine And.intro ⟨by omega, by decide, _, rfl⟩ (zC.use (t_takesAll1 (by omega) (hE.sg S) (by omega) ((S.2 27 (by omega)).trans ha)) (fun y L2 μ2 hy => ?_))
      obtain ⟨rfl, rfl, σ2, τ2, rfl, S2, -⟩ := hy
      refine zT.step ct_X7_takesDay_ok ?_
      refine zT.step ct_X7_takesDay_ok ?_
      refine zT.step ct_X7_takesDay_ok ?_
      refine zT.step ct_X7_takesDay_ok ?_
      rw [nI_1]
      exact ih (h + 1) σ2 τ2 (by omega) (S.trans S2)
  refine zC.of mk_X7_takesDay rfl ?_
  refine zT.step ct_X7_takesDay_ok ?_
  refine zT.step ct_X7_takesDay_ok ?_
  refine zT.step ct_X7_takesDay_ok ?_
  refine zT.step ct_X7_takesDay_ok ?_
  exact lp 13 0 σ τ rfl SG.rf
theorem rg_f {x : Int32} {n : Nat} (hn : n < 2 ^ 31) (h : rg x n = true) : x = nI x.toNatClampNeg ∧ x.toNatClampNeg < n := by
  obtain ⟨i, hi, rfl⟩ := rg_t hn h
  rw [nI_clamp (by omega)]
  exact ⟨rfl, hi⟩
theorem t_hour {X : zXs} {d n t m : Nat} {a σ : zSg} {τ : Nat → Nat → Int64} {r : Option Nat} {x y z : Int32} (hd : 57 ≤ d) (hE : RE a σ n t m) (ha : σ 50 27 = -1) : zC X d 0 0 m_X7_hour [.ref 50, .int x, .int y, .int z] L0 (mm σ τ r) (tA σ r (v_hour a n t x y z)) := by
  have h8 := hE.1.1
  have bad : (rg x n && rg y 13 && rg z 3) = false → zT X d m_X7_hour (tA σ r (v_hour a n t x y z)) 0 0 27 [some (.ref 50), some (.int x), some (.int y), some (.int z)] [] L0 (mm σ τ r) := by
    intro e
    unfold v_hour
    rw [e]
    refine zT.step ct_X7_hour_ok ?_
    refine zT.step ct_X7_hour_ok ?_
    exact And.intro rfl (And.intro rfl ⟨σ, τ, rfl, SQ.rf⟩)
  refine zC.of mk_X7_hour rfl ?_
  refine zT.step ct_X7_hour_ok ?_
  refine zT.step ct_X7_hour_ok ?_
  refine zT.step ct_X7_hour_ok ?_
  refine And.intro ⟨by omega, by decide, _, rfl⟩ (zF.use (t_isThing (by omega) hE.1.2.1 h8) ?_)
  refine zT.step ct_X7_hour_ok ?_
  refine And.intro (fun q => bad (by rw [fb0 q]; rfl)) (fun q1 => ?_)
  have q1 := fb1 q1
  refine zT.step ct_X7_hour_ok ?_
  refine zT.step ct_X7_hour_ok ?_
  refine And.intro (by omega) (zF.use (t_isHour (by omega)) ?_)
  refine zT.step ct_X7_hour_ok ?_
  refine And.intro (fun q => bad (by rw [fb0 q, Bool.and_false]; rfl)) (fun q2 => ?_)
  have q2 := fb1 q2
  refine zT.step ct_X7_hour_ok ?_
  refine zT.step ct_X7_hour_ok ?_
  refine zT.step ct_X7_hour_ok ?_
  refine zT.step ct_X7_hour_ok ?_
  refine zT.step ct_X7_hour_ok ?_
  refine And.intro (by omega) (zF.use (t_inR (m := 2) (by decide) rfl) ?_)
  refine zT.step ct_X7_hour_ok ?_
  refine And.intro (fun q => bad (by rw [fb0 q, Bool.and_false])) (fun q3 => ?_)
  have q3 := fb1 q3
  obtain ⟨ex, hx⟩ := rg_f (by omega) q1
  obtain ⟨ey, hy⟩ := rg_f (by decide) q2
  unfold v_hour
  rw [q1, q2, q3]
  generalize x.toNatClampNeg = i at ex hx ⊢
  generalize y.toNatClampNeg = h at ey hy ⊢
  subst ex ey
  refine zT.step ct_X7_hour_ok ?_
  refine zT.step ct_X7_hour_ok ?_
  refine zT.step ct_X7_hour_ok ?_
  refine And.intro ⟨by omega, by decide, _, rfl⟩ (zC.use (t_gathers (by omega) hE hy ha) (fun y L2 μ2 hy => ?_))
  obtain ⟨rfl, rfl, σ1, τ1, rfl, S, G⟩ := hy
  obtain ⟨g1, g2, g3⟩ := (G.2 i hx).1 (nI_m1 (by omega))
  have fin : ∀ v : Int32, v = (if z = 0 then cL a t h i else if z = 1 then (cS a n t h (-1)).1 >>> (nI i &&& 31) &&& 1 else cDu a n t h i) → zT X d m_X7_hour (tA σ r (bif true && true && true then (if z = 0 then cL a t h i else if z = 1 then (cS a n t h (-1)).1 >>> (nI i &&& 31) &&& 1 else cDu a n t h i) else -2)) 0 0 68 [some (.ref 50), some (.int (nI i)), some (.int (nI h)), some (.int z)] [.int v] L0 (mm σ1 τ1 r) := by
    intro v hv
    refine zT.step ct_X7_hour_ok ?_
    exact And.intro (congrArg (fun q => some (Value.int q)) hv) (And.intro rfl ⟨σ1, τ1, rfl, S.sq⟩)
  refine zT.step ct_X7_hour_ok ?_
  refine zT.step ct_X7_hour_ok ?_
  refine And.intro (fun q => ?_) (fun q => ?_)
  · have q : z = 0 := q
    refine zT.step ct_X7_hour_ok ?_
    refine zT.step ct_X7_hour_ok ?_
    refine And.intro ⟨by decide, _, rfl⟩ ?_
    refine zT.step ct_X7_hour_ok ?_
    refine zT.step ct_X7_hour_ok ?_
    refine Exists.intro i (And.intro ⟨rfl, by decide, 8, rfl, by omega, by decide⟩ ?_)
    refine zT.step ct_X7_hour_ok ?_
    exact fin _ (by rw [if_pos q]; exact g1)
  · have q : ¬ z = 0 := q
    refine zT.step ct_X7_hour_ok ?_
    refine zT.step ct_X7_hour_ok ?_
    refine zT.step ct_X7_hour_ok ?_
    refine And.intro (fun q4 => ?_) (fun q4 => ?_)
    · have q4 : z = 1 := q4
      refine zT.step ct_X7_hour_ok ?_
      refine zT.step ct_X7_hour_ok ?_
      refine And.intro ⟨by decide, _, rfl⟩ ?_
      refine zT.step ct_X7_hour_ok ?_
      refine zT.step ct_X7_hour_ok ?_
      refine Exists.intro i (And.intro ⟨rfl, by decide, 8, rfl, by omega, by decide⟩ ?_)
      refine zT.step ct_X7_hour_ok ?_
      exact fin _ (by rw [if_neg q, if_pos q4, b_bit (by omega)]; exact g2)
    · have q4 : ¬ z = 1 := q4
      refine zT.step ct_X7_hour_ok ?_
      refine zT.step ct_X7_hour_ok ?_
      refine And.intro ⟨by decide, _, rfl⟩ ?_
      refine zT.step ct_X7_hour_ok ?_
      refine zT.step ct_X7_hour_ok ?_
      refine Exists.intro i (And.intro ⟨rfl, by decide, 8, rfl, by omega, by decide⟩ ?_)
      exact fin _ (by rw [if_neg q, if_neg q4]; exact (G.due h8 hx).trans (du_eq (by omega)))
theorem t_takes {X : zXs} {d n t m : Nat} {a σ : zSg} {τ : Nat → Nat → Int64} {r : Option Nat} {x : Int32} (hd : 57 ≤ d) (hE : RE a σ n t m) (ha : σ 50 27 = -1) : zC X d 0 0 m_X7_takes [.ref 50, .int x] L0 (mm σ τ r) (tA σ r (v_takes a n t x)) := by
  have fin : ∀ (σ1 : zSg) (τ1 : Nat → Nat → Int64) (v : Int32), SQ σ σ1 → v = v_takes a n t x → zT X d m_X7_takes (tA σ r (v_takes a n t x)) 0 0 29 [some (.ref 50), some (.int x)] [.int v] L0 (mm σ1 τ1 r) := by
    intro σ1 τ1 v S hv
    refine zT.step ct_X7_takes_ok ?_
    exact And.intro (congrArg (fun q => some (Value.int q)) hv) (And.intro rfl ⟨σ1, τ1, rfl, S⟩)
  refine zC.of mk_X7_takes rfl ?_
  refine zT.step ct_X7_takes_ok ?_
  refine zT.step ct_X7_takes_ok ?_
  refine zT.step ct_X7_takes_ok ?_
  refine And.intro (fun q => ?_) (fun q => ?_)
  · have q : x = -1 := q
    refine zT.step ct_X7_takes_ok ?_
    refine zT.step ct_X7_takes_ok ?_
    refine And.intro ⟨by omega, by decide, _, rfl⟩ (zC.use (t_takesDay (by omega) hE ha) (fun y L2 μ2 hy => ?_))
    obtain ⟨rfl, rfl, σ1, τ1, rfl, S⟩ := hy
    refine zT.step ct_X7_takes_ok ?_
    exact fin σ1 τ1 _ S.sq (by unfold v_takes; rw [if_pos q])
  · have q : ¬ x = -1 := q
    refine zT.step ct_X7_takes_ok ?_
    refine zT.step ct_X7_takes_ok ?_
    refine And.intro (by omega) (zF.use (t_isHour (by omega)) ?_)
    refine zT.step ct_X7_takes_ok ?_
    refine And.intro (fun q2 => ?_) (fun q2 => ?_)
    · have q2 := fb0 q2
      refine zT.step ct_X7_takes_ok ?_
      exact fin σ τ _ SQ.rf (by unfold v_takes; rw [if_neg q, q2]; rfl)
    · have q2 := fb1 q2
      obtain ⟨ex, hx⟩ := rg_f (by decide) q2
      have ta := t_takesAll1 (X := X) (d := d - 1) (τ := τ) (r := r) (by omega) hE hx ha
      rw [← ex] at ta
      refine zT.step ct_X7_takes_ok ?_
      refine zT.step ct_X7_takes_ok ?_
      refine zT.step ct_X7_takes_ok ?_
      refine And.intro ⟨by omega, by decide, _, rfl⟩ (zC.use ta (fun y L2 μ2 hy => ?_))
      obtain ⟨rfl, rfl, σ1, τ1, rfl, S, -⟩ := hy
      refine zT.step ct_X7_takes_ok ?_
      exact fin σ1 τ1 _ S.sq (by unfold v_takes; rw [if_neg q, q2]; rfl)
theorem t_dark {X : zXs} {d n t m : Nat} {a σ : zSg} {τ : Nat → Nat → Int64} {r : Option Nat} {x : Int32} (hd : 57 ≤ d) (hE : RE a σ n t m) (ha : σ 50 27 = -1) : zC X d 0 0 m_X7_dark [.ref 50, .int x] L0 (mm σ τ r) (tA σ r (v_dark a n t x)) := by
  refine zC.of mk_X7_dark rfl ?_
  refine zT.step ct_X7_dark_ok ?_
  refine zT.step ct_X7_dark_ok ?_
  refine And.intro (by omega) (zF.use (t_isHour (by omega)) ?_)
  refine zT.step ct_X7_dark_ok ?_
  refine And.intro (fun q2 => ?_) (fun q2 => ?_)
  · have q2 := fb0 q2
    refine zT.step ct_X7_dark_ok ?_
    refine zT.step ct_X7_dark_ok ?_
    exact And.intro (by unfold v_dark; rw [q2]; rfl) (And.intro rfl ⟨σ, τ, rfl, SQ.rf⟩)
  · have q2 := fb1 q2
    obtain ⟨ex, hx⟩ := rg_f (by decide) q2
    have ta := t_gathers (X := X) (d := d - 1) (τ := τ) (r := r) (by omega) hE hx ha
    rw [← ex] at ta
    refine zT.step ct_X7_dark_ok ?_
    refine zT.step ct_X7_dark_ok ?_
    refine zT.step ct_X7_dark_ok ?_
    refine And.intro ⟨by omega, by decide, _, rfl⟩ (zC.use ta (fun y L2 μ2 hy => ?_))
    obtain ⟨rfl, rfl, σ1, τ1, rfl, S, G⟩ := hy
    refine zT.step ct_X7_dark_ok ?_
    refine zT.step ct_X7_dark_ok ?_
    refine And.intro ⟨by decide, _, rfl⟩ ?_
    refine zT.step ct_X7_dark_ok ?_
    exact And.intro (by unfold v_dark; rw [q2]; exact congrArg (fun q => some (Value.int q)) G.1) (And.intro rfl ⟨σ1, τ1, rfl, S.sq⟩)
/-! bounds of what is due -/
theorem nI_neg {n : Nat} (h : n < 2 ^ 31) : (-nI n).toInt = -(n : Int) := by
  rw [Int32.toInt_neg, nI_toInt h]
  exact Int.bmod_eq_of_le_mul_two (by omega) (by omega)
theorem cD_b (a : zSg) (t h i : Nat) : ∃ v, v ≤ 9999 ∧ cD a t h i = nI v := by
  unfold cD g_D
  cases g_dull (a 1 6) h with
  | true => exact ⟨0, by decide, rfl⟩
  | false =>
    show ∃ v, v ≤ 9999 ∧ g_dl (a (8 + i)) (a 1 5) (tvC a t) h (g_lg (a (8 + i)) (a 1 5) (tvC a t) h) = nI v
    unfold g_dl g_mx f_owed
    obtain ⟨o, ho, eo⟩ := bnd_n (f_ow (a (8 + i) 0) (a (8 + i) 1) (g_lg (a (8 + i)) (a 1 5) (tvC a t) h) (f_bnd (tvC a t 1 (g_env (a (8 + i)) (a 1 5) h (g_lg (a (8 + i)) (a 1 5) (tvC a t) h))) 40) (g_lg (a (8 + i)) (a 1 5) (tvC a t) h * f_bnd (tvC a t 1 (g_env (a (8 + i)) (a 1 5) h (g_lg (a (8 + i)) (a 1 5) (tvC a t) h))) 40)) 9999 (by decide)
    obtain ⟨s, hs, es⟩ := bnd_n (tvC a t 2 (g_env (a (8 + i)) (a 1 5) h (g_lg (a (8 + i)) (a 1 5) (tvC a t) h))) 99 (by decide)
    rw [show (9999 : Int32) = nI 9999 from rfl, show (99 : Int32) = nI 99 from rfl, eo, es]
    rcases Nat.lt_or_ge o s with q | q
    · refine ⟨0, by decide, if_neg (fun z => ?_)⟩
      have e : nI o - nI s = -nI (s - o) := by
        have : nI s = nI (s - o) + nI o := by rw [nI_add]; congr 1; omega
        rw [this, Int32.sub_eq_add_neg, Int32.neg_add]
        rw [Int32.add_comm, Int32.sub_add_cancel]
      rw [e] at z
      have := Int32.lt_iff_toInt_lt.mp z
      have e0 : (0 : Int32).toInt = 0 := by decide
      rw [e0, show (-nI (s - o)).toInt = -((s - o : Nat) : Int) from nI_neg (by omega)] at this
      omega
    · rw [nI_sub q]
      by_cases z : 0 < nI (o - s)
      · exact ⟨o - s, by omega, if_pos z⟩
      · exact ⟨0, by decide, if_neg z⟩
theorem cDu_b {a : zSg} {n t h i : Nat} (hi : i < 8) : ∃ v, v ≤ 9999 ∧ cDu a n t h i = nI v := by
  unfold cDu
  rw [due_b (by omega)]
  cases bt (cS a n t h (-1)).1 i with
  | true => exact ⟨0, by decide, rfl⟩
  | false => exact cD_b a t h i
theorem cAl_b {a : zSg} {n t h : Nat} (hn : n ≤ 8) : ∃ v, v ≤ 79992 ∧ cAl a n t h = nI v := by
  have : ∀ k, k ≤ 8 → ∃ v, v ≤ 9999 * k ∧ sumN (cDu a n t h) k = nI v := by
    intro k
    induction k with
    | zero => intro _; exact ⟨0, Nat.zero_le _, rfl⟩
    | succ k ih =>
      intro hk
      obtain ⟨v, hv, e⟩ := ih (by omega)
      obtain ⟨w, hw, e2⟩ := cDu_b (a := a) (n := n) (t := t) (h := h) (i := k) (by omega)
      exact ⟨v + w, by omega, by show sumN _ k + _ = _; rw [e, e2, nI_add]⟩
  obtain ⟨v, hv, e⟩ := this n hn
  refine ⟨v, by omega, ?_⟩
  rw [← al_eq hn, ← e]
  exact sumN_c n (fun i hi => du_eq (by omega))
