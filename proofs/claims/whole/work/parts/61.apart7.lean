/-! the reference's apart, hours -/
def am (v : Nat → Int32) : Nat → Int32 × Int32
  | 0 => (0, 9999)
  | n + 1 => (if (am v n).1 < v n then v n else (am v n).1, if v n < (am v n).2 then v n else (am v n).2)
theorem f_am_s (hd : Int32) (du : Nat → Int32) : ∀ n, f_am hd du n = am (f_due hd du) n := by
  intro n
  induction n with
  | zero => rfl
  | succ n ih => unfold f_am am; rw [ih]
theorem am_1 {v : Nat → Int32} {x : Nat} (hx : x ≤ 9999) (e : v 0 = nI x) : am v 1 = (v 0, v 0) := by
  show (if (0 : Int32) < v 0 then v 0 else 0, if v 0 < 9999 then v 0 else 9999) = _
  rw [e]
  refine Prod.ext ?_ ?_
  · show (if (0 : Int32) < nI x then nI x else 0) = nI x
    by_cases z : 0 < nI x
    · rw [if_pos z]
    · rw [if_neg z]
      exact Int32.le_antisymm (nI_pos' (by omega)) (Int32.not_lt.mp z)
  · show (if nI x < 9999 then nI x else 9999) = nI x
    by_cases z : nI x < 9999
    · rw [if_pos z]
    · rw [if_neg z]
      have z : ¬ nI x < nI 9999 := z
      have : x = 9999 := by
        rcases Nat.lt_or_ge x 9999 with q | q
        · exact absurd (nI_lt q (by decide)) z
        · omega
      rw [this]; rfl
theorem am_b {v : Nat → Int32} : ∀ n, (∀ i, i < n → ∃ x, x ≤ 9999 ∧ v i = nI x) → 1 ≤ n → ∃ p q, q ≤ p ∧ p ≤ 9999 ∧ am v n = (nI p, nI q) := by
  intro n
  induction n with
  | zero => intro _ h; omega
  | succ n ih =>
    intro hv _
    obtain ⟨x, hx, e⟩ := hv n (Nat.lt_succ_self n)
    cases n with
    | zero => exact ⟨x, x, Nat.le_refl _, hx, by rw [am_1 hx e, e]⟩
    | succ n =>
      obtain ⟨p, q, h1, h2, h3⟩ := ih (fun i hi => hv i (by omega)) (by omega)
      refine ⟨if p < x then x else p, if x < q then x else q, by split <;> split <;> omega, by split <;> omega, ?_⟩
      show (if (am v (n + 1)).1 < v (n + 1) then v (n + 1) else (am v (n + 1)).1, if v (n + 1) < (am v (n + 1)).2 then v (n + 1) else (am v (n + 1)).2) = _
      rw [h3, e]
      refine Prod.ext ?_ ?_
      · show (if nI p < nI x then nI x else nI p) = nI (if p < x then x else p)
        by_cases z : p < x
        · rw [if_pos z, if_pos (nI_lt z (by omega))]
        · rw [if_neg z, if_neg (nI_nlt (by omega) (by omega))]
      · show (if nI x < nI q then nI x else nI q) = nI (if x < q then x else q)
        by_cases z : x < q
        · rw [if_pos z, if_pos (nI_lt z (by omega))]
        · rw [if_neg z, if_neg (nI_nlt (by omega) (by omega))]
theorem ap_eq {a : zSg} {n t h : Nat} : cAp a n t h = (am (cDu a n t h) n).1 - (am (cDu a n t h) n).2 := by
  unfold cAp
  rw [f_am_s]
  rfl
theorem ap_b {a : zSg} {n t h : Nat} (hn : n ≤ 8) (h1 : 1 ≤ n) : ∃ p, p ≤ 9999 ∧ cAp a n t h = nI p := by
  obtain ⟨p, q, hq, hp, e⟩ := am_b (v := cDu a n t h) n (fun i hi => cDu_b (by omega)) h1
  refine ⟨p - q, by omega, ?_⟩
  rw [ap_eq, e]
  exact nI_sub hq
theorem al_0 {a : zSg} {t h : Nat} : cAl a 0 t h = 0 := rfl
def rAp (a : zSg) (n t h : Nat) : Int32 := if cAl a n t h = 0 then -1 else cAp a n t h
theorem t_apart {X : zXs} {d n t m h : Nat} {a σ : zSg} {τ : Nat → Nat → Int64} {r : Option Nat} (hd : 56 ≤ d) (hE : RE a σ n t m) (hh : h < 13) (ha : σ 50 27 = -1) : zC X d 0 0 m_X7_apart [.ref 50, .int (nI h)] L0 (mm σ τ r) (fun y L2 μ2 => y = some (.int (rAp a n t h)) ∧ L2 = L0 ∧ ∃ σ' τ', μ2 = mm σ' τ' r ∧ SG σ σ') := by
  have h8 := hE.1.1
  unfold rAp
  refine zC.of mk_X7_apart rfl ?_
  refine zT.step ct_X7_apart_ok ?_
  refine zT.step ct_X7_apart_ok ?_
  refine zT.step ct_X7_apart_ok ?_
  refine And.intro ⟨by omega, by decide, _, rfl⟩ (zC.use (t_takesAll1 (by omega) hE hh ha) (fun y L2 μ2 hy => ?_))
  obtain ⟨rfl, rfl, σ1, τ1, rfl, S, G⟩ := hy
  have mny : σ1 50 11 = nI n := (S.2 11 (by omega)).trans hE.1.2.1
  refine zT.step ct_X7_apart_ok ?_
  refine And.intro (fun q => ?_) (fun q => ?_)
  · have q : cAl a n t h = 0 := q
    rw [if_pos q]
    refine zT.step ct_X7_apart_ok ?_
    refine zT.step ct_X7_apart_ok ?_
    exact And.intro rfl (And.intro rfl ⟨σ1, τ1, rfl, S⟩)
  have q : ¬ cAl a n t h = 0 := q
  rw [if_neg q, ap_eq]
  have n1 : 1 ≤ n := by
    rcases Nat.eq_zero_or_pos n with z | z
    · subst z; exact absurd al_0 q
    · exact z
  have du : ∀ i, i < n → σ1 58 i = cDu a n t h i := fun i hi => (G.due h8 hi).trans (du_eq (by omega))
  obtain ⟨x0, hx0, e0⟩ := cDu_b (a := a) (n := n) (t := t) (h := h) (i := 0) (by decide)
  have a1 := am_1 hx0 e0
  obtain ⟨v, hv⟩ : ∃ v, v = cDu a n t h := ⟨_, rfl⟩
  rw [← hv] at du a1 ⊢
  have lp : ∀ (m' x : Nat), x + m' = n → 1 ≤ x → zT X d m_X7_apart (fun y L2 μ2 => y = some (.int ((am v n).1 - (am v n).2)) ∧ L2 = L0 ∧ ∃ σ' τ', μ2 = mm σ' τ' r ∧ SG σ σ') 0 0 27 [some (.ref 50), some (.int (nI h)), some (.int (am v x).1), some (.int (am v x).2), some (.int (nI x))] [] L0 (mm σ1 τ1 r) := by
    intro m'
    induction m' with
    | zero =>
      intro x hx _
      have hx : x = n := by omega
      subst hx
      refine zT.step ct_X7_apart_ok ?_
      refine zT.step ct_X7_apart_ok ?_
      refine zT.step ct_X7_apart_ok ?_
      refine And.intro ⟨by decide, _, rfl⟩ ?_
      refine zT.step ct_X7_apart_ok ?_
      refine And.intro (fun _ => ?_) (fun q => ?_)
      · refine zT.step ct_X7_apart_ok ?_
        refine zT.step ct_X7_apart_ok ?_
        refine zT.step ct_X7_apart_ok ?_
        refine zT.step ct_X7_apart_ok ?_
        exact And.intro rfl (And.intro rfl ⟨σ1, τ1, rfl, S⟩)
      · have q : ¬ σ1 50 11 ≤ nI x := q
        rw [mny] at q
        exact absurd (nI_le (Nat.le_refl x) (by omega)) q
    | succ m' ih =>
      intro x hx h1x
      have dx := du x (by omega)
      have eL := ih (x + 1) (by omega) (by omega)
      have e1 : (am v (x + 1)).1 = if (am v x).1 < v x then v x else (am v x).1 := rfl
      have e2 : (am v (x + 1)).2 = if v x < (am v x).2 then v x else (am v x).2 := rfl
      rw [e1, e2] at eL
      generalize (am v x).1 = mo at eL ⊢
      generalize (am v x).2 = le at eL ⊢
      have two : ∀ mo2 : Int32, mo2 = (if mo < v x then v x else mo) → zT X d m_X7_apart (fun y L2 μ2 => y = some (.int ((am v n).1 - (am v n).2)) ∧ L2 = L0 ∧ ∃ σ' τ', μ2 = mm σ' τ' r ∧ SG σ σ') 0 0 58 [some (.ref 50), some (.int (nI h)), some (.int mo), some (.int le), some (.int (nI x))] [.int mo2] L0 (mm σ1 τ1 r) := by
        intro mo2 hmo
        rw [← hmo] at eL
        refine zT.step ct_X7_apart_ok ?_
        refine zT.step ct_X7_apart_ok ?_
        refine zT.step ct_X7_apart_ok ?_
        refine And.intro ⟨by decide, _, rfl⟩ ?_
        refine zT.step ct_X7_apart_ok ?_
        refine zT.step ct_X7_apart_ok ?_
        refine Exists.intro x (And.intro ⟨rfl, by decide, 8, rfl, by omega, by decide⟩ ?_)
        refine zT.step ct_X7_apart_ok ?_
        refine zT.step ct_X7_apart_ok ?_
        refine And.intro (fun z => ?_) (fun z => ?_)
        · have z : le ≤ σ1 58 x := z
          rw [dx] at z
          rw [if_neg (Int32.not_lt.mpr z)] at eL
          refine zT.step ct_X7_apart_ok ?_
          refine zT.step ct_X7_apart_ok ?_
          refine zT.step ct_X7_apart_ok ?_
          refine zT.step ct_X7_apart_ok ?_
          rw [nI_1]
          exact eL
        · have z : ¬ le ≤ σ1 58 x := z
          rw [dx] at z
          rw [if_pos (Int32.not_le.mp z)] at eL
          refine zT.step ct_X7_apart_ok ?_
          refine zT.step ct_X7_apart_ok ?_
          refine And.intro ⟨by decide, _, rfl⟩ ?_
          refine zT.step ct_X7_apart_ok ?_
          refine zT.step ct_X7_apart_ok ?_
          refine Exists.intro x (And.intro ⟨rfl, by decide, 8, rfl, by omega, by decide⟩ ?_)
          show zT X d m_X7_apart _ 0 0 77 _ [.int (σ1 58 x)] _ _
          rw [dx]
          refine zT.step ct_X7_apart_ok ?_
          refine zT.step ct_X7_apart_ok ?_
          refine zT.step ct_X7_apart_ok ?_
          refine zT.step ct_X7_apart_ok ?_
          rw [nI_1]
          exact eL
      refine zT.step ct_X7_apart_ok ?_
      refine zT.step ct_X7_apart_ok ?_
      refine zT.step ct_X7_apart_ok ?_
      refine And.intro ⟨by decide, _, rfl⟩ ?_
      refine zT.step ct_X7_apart_ok ?_
      refine And.intro (fun q => ?_) (fun _ => ?_)
      · have q : σ1 50 11 ≤ nI x := q
        rw [mny] at q
        exact absurd q (nI_ge (show x < n by omega) (by omega))
      refine zT.step ct_X7_apart_ok ?_
      refine zT.step ct_X7_apart_ok ?_
      refine And.intro ⟨by decide, _, rfl⟩ ?_
      refine zT.step ct_X7_apart_ok ?_
      refine zT.step ct_X7_apart_ok ?_
      refine Exists.intro x (And.intro ⟨rfl, by decide, 8, rfl, by omega, by decide⟩ ?_)
      refine zT.step ct_X7_apart_ok ?_
      refine zT.step ct_X7_apart_ok ?_
      refine And.intro (fun z => ?_) (fun z => ?_)
      · have z : σ1 58 x ≤ mo := z
        rw [dx] at z
        refine zT.step ct_X7_apart_ok ?_
        exact two mo (by rw [if_neg (Int32.not_lt.mpr z)])
      · have z : ¬ σ1 58 x ≤ mo := z
        rw [dx] at z
        refine zT.step ct_X7_apart_ok ?_
        refine zT.step ct_X7_apart_ok ?_
        refine And.intro ⟨by decide, _, rfl⟩ ?_
        refine zT.step ct_X7_apart_ok ?_
        refine zT.step ct_X7_apart_ok ?_
        refine Exists.intro x (And.intro ⟨rfl, by decide, 8, rfl, by omega, by decide⟩ ?_)
        show zT X d m_X7_apart _ 0 0 54 _ [.int (σ1 58 x)] _ _
        rw [dx]
        refine zT.step ct_X7_apart_ok ?_
        exact two (v x) (by rw [if_pos (Int32.not_le.mp z)])
  have l1 := lp (n - 1) 1 (by omega) (Nat.le_refl _)
  rw [a1] at l1
  refine zT.step ct_X7_apart_ok ?_
  refine zT.step ct_X7_apart_ok ?_
  refine And.intro ⟨by decide, _, rfl⟩ ?_
  refine zT.step ct_X7_apart_ok ?_
  refine zT.step ct_X7_apart_ok ?_
  refine Exists.intro 0 (And.intro ⟨rfl, by decide, 8, rfl, by decide, by decide⟩ ?_)
  refine zT.step ct_X7_apart_ok ?_
  refine zT.step ct_X7_apart_ok ?_
  refine zT.step ct_X7_apart_ok ?_
  refine And.intro ⟨by decide, _, rfl⟩ ?_
  refine zT.step ct_X7_apart_ok ?_
  refine zT.step ct_X7_apart_ok ?_
  refine Exists.intro 0 (And.intro ⟨rfl, by decide, 8, rfl, by decide, by decide⟩ ?_)
  refine zT.step ct_X7_apart_ok ?_
  refine zT.step ct_X7_apart_ok ?_
  refine zT.step ct_X7_apart_ok ?_
  show zT X d m_X7_apart _ 0 0 27 [some (.ref 50), some (.int (nI h)), some (.int (σ1 58 0)), some (.int (σ1 58 0)), some (.int 1)] [] _ _
  rw [du 0 n1]
  exact l1
theorem t_hours {X : zXs} {d n t m : Nat} {a σ : zSg} {τ : Nat → Nat → Int64} {r : Option Nat} {x : Int32} (hd : 58 ≤ d) (hE : RE a σ n t m) (ha : σ 50 27 = -1) : zC X d 0 0 m_X7_hours [.ref 50, .int x] L0 (mm σ τ r) (tA σ r (v_hours (cAl a n t) (cAp a n t) x)) := by
  have h8 := hE.1.1
  obtain ⟨al, hal⟩ : ∃ al, al = cAl a n t := ⟨_, rfl⟩
  obtain ⟨ap, hap⟩ : ∃ ap, ap = cAp a n t := ⟨_, rfl⟩
  have alb : ∀ h, ∃ v, v ≤ 79992 ∧ al h = nI v := fun h => by rw [hal]; exact cAl_b h8
  have apn : ∀ h, ¬ al h = 0 → ¬ ap h = -1 := by
    intro h q z
    rw [hal] at q
    have n1 : 1 ≤ n := by
      rcases Nat.eq_zero_or_pos n with w | w
      · subst w; exact absurd al_0 q
      · exact w
    obtain ⟨p, hp, e⟩ := ap_b (a := a) (t := t) (h := h) h8 n1
    rw [hap, e] at z
    have := nI_pos' (n := p) (by omega)
    rw [z] at this
    exact absurd this (by decide)
  have gn : ∀ σ1, SG σ σ1 → σ1 50 27 = -1 := fun σ1 S => (S.2 27 (by omega)).trans ha
  have ta : ∀ (σ1 : zSg) (τ1 : Nat → Nat → Int64) (h : Nat), SG σ σ1 → h < 13 → zC X (d - 1) 0 0 m_X7_takesAll [.ref 50, .int (nI h)] L0 (mm σ1 τ1 r) (fun y L2 μ2 => y = some (.int (al h)) ∧ L2 = L0 ∧ ∃ σ' τ', μ2 = mm σ' τ' r ∧ SG σ σ') := by
    intro σ1 τ1 h S hh
    rw [hal]
    refine zC.wk (t_takesAll1 (by omega) (hE.sg S) hh (gn σ1 S)) (fun w L2 μ2 hw => ?_)
    obtain ⟨h1, h2, σ', τ', h3, h4, -⟩ := hw
    exact ⟨h1, h2, σ', τ', h3, S.trans h4⟩
  have tp : ∀ (σ1 : zSg) (τ1 : Nat → Nat → Int64) (h : Nat), SG σ σ1 → h < 13 → zC X (d - 1) 0 0 m_X7_apart [.ref 50, .int (nI h)] L0 (mm σ1 τ1 r) (fun y L2 μ2 => y = some (.int (if al h = 0 then -1 else ap h)) ∧ L2 = L0 ∧ ∃ σ' τ', μ2 = mm σ' τ' r ∧ SG σ σ') := by
    intro σ1 τ1 h S hh
    rw [hal, hap]
    refine zC.wk (t_apart (by omega) (hE.sg S) hh (gn σ1 S)) (fun w L2 μ2 hw => ?_)
    obtain ⟨h1, h2, σ', τ', h3, h4⟩ := hw
    exact ⟨h1, h2, σ', τ', h3, S.trans h4⟩
  rw [← hal, ← hap]
  have key : (decide ((0 : Int32) ≤ x ∧ x ≤ 3)) = rg x 4 := rg_le (m := 3) (by decide)
  have lp : rg x 4 = true → ∀ (m' h im : Nat) (σ1 : zSg) (τ1 : Nat → Nat → Int64), h + m' = 13 → SG σ σ1 → im < 13 → ((h = 0 ∧ im = 0) ∨ ((cMost al h).1 = nI im ∧ (cMost al h).2 = al im)) → zT X d m_X7_hours (tA σ r (v_hours al ap x)) 0 0 25 [some (.ref 50), some (.int x), some (.int (nI im)), some (.int (cFair al ap h).1), some (.int (cFair al ap h).2), some (.int (nI h)), none] [] L0 (mm σ1 τ1 r) := by
    intro hx m'
    induction m' with
    | zero =>
      intro h im σ1 τ1 hh S him hmo
      have hh : h = 13 := by omega
      subst hh
      obtain ⟨e1, e2⟩ := hmo.elim (fun z => absurd z.1 (by decide)) id
      have hx4 := of_decide_eq_true hx
      have v0 : ¬ (x < 0 ∨ 3 < x) := by
        intro z
        have := of_decide_eq_true (key.trans hx)
        rcases z with z | z
        · exact absurd this.1 (Int32.not_le.mpr z)
        · exact absurd this.2 (Int32.not_le.mpr z)
      have fin : ∀ (σ2 : zSg) (τ2 : Nat → Nat → Int64) (v : Int32), SG σ σ2 → v = v_hours al ap x → zT X d m_X7_hours (tA σ r (v_hours al ap x)) 0 0 124 [some (.ref 50), some (.int x), some (.int (nI im)), some (.int (cFair al ap 13).1), some (.int (cFair al ap 13).2), some (.int (nI 13)), none] [.int v] L0 (mm σ2 τ2 r) := by
        intro σ2 τ2 v S2 hv
        refine zT.step ct_X7_hours_ok ?_
        exact And.intro (congrArg (fun q => some (Value.int q)) hv) (And.intro rfl ⟨σ2, τ2, rfl, S2.sq⟩)
      refine zT.step ct_X7_hours_ok ?_
      refine zT.step ct_X7_hours_ok ?_
      refine zT.step ct_X7_hours_ok ?_
      refine And.intro (fun _ => ?_) (fun q => absurd (by decide) q)
      refine zT.step ct_X7_hours_ok ?_
      refine zT.step ct_X7_hours_ok ?_
      refine And.intro (fun q => ?_) (fun q => ?_)
      · have q : x = 0 := q
        refine zT.step ct_X7_hours_ok ?_
        refine zT.step ct_X7_hours_ok ?_
        exact fin σ1 τ1 _ S (by unfold v_hours; rw [if_neg v0, if_pos q]; exact e1.symm)
      have q : ¬ x = 0 := q
      refine zT.step ct_X7_hours_ok ?_
      refine zT.step ct_X7_hours_ok ?_
      refine zT.step ct_X7_hours_ok ?_
      refine And.intro (fun q1 => ?_) (fun q1 => ?_)
      · have q1 : x = 1 := q1
        refine zT.step ct_X7_hours_ok ?_
        refine zT.step ct_X7_hours_ok ?_
        refine zT.step ct_X7_hours_ok ?_
        refine And.intro ⟨by omega, by decide, _, rfl⟩ (zC.use (ta σ1 τ1 im S him) (fun y L2 μ2 hy => ?_))
        obtain ⟨rfl, rfl, σ2, τ2, rfl, S2⟩ := hy
        refine zT.step ct_X7_hours_ok ?_
        exact fin σ2 τ2 _ S2 (by unfold v_hours; rw [if_neg v0, if_neg q, if_pos (by rw [q1]; decide)]; exact e2.symm)
      have q1 : ¬ x = 1 := q1
      have x2 : ¬ x < 2 := by
        intro z
        obtain ⟨i, hi, rfl⟩ := rg_t (by decide) hx
        have z : nI i < nI 2 := z
        have z := (nI_ltI (by omega) (by decide)).mp z
        have : i = 0 ∨ i = 1 := by omega
        rcases this with w | w
        · exact q (by rw [w]; rfl)
        · exact q1 (by rw [w]; rfl)
      refine zT.step ct_X7_hours_ok ?_
      refine zT.step ct_X7_hours_ok ?_
      refine zT.step ct_X7_hours_ok ?_
      refine And.intro (fun q2 => ?_) (fun q2 => ?_)
      · have q2 : x = 2 := q2
        refine zT.step ct_X7_hours_ok ?_
        refine zT.step ct_X7_hours_ok ?_
        exact fin σ1 τ1 _ S (by unfold v_hours; rw [if_neg v0, if_neg q, if_neg x2, if_pos q2])
      · have q2 : ¬ x = 2 := q2
        refine zT.step ct_X7_hours_ok ?_
        exact fin σ1 τ1 _ S (by unfold v_hours; rw [if_neg v0, if_neg q, if_neg x2, if_neg q2])
    | succ m' ih =>
      intro h im σ1 τ1 hh S him hmo
      -- from 53 on
      have second : ∀ (σ2 : zSg) (τ2 : Nat → Nat → Int64) (im2 : Nat), SG σ σ2 → im2 < 13 → ((cMost al (h + 1)).1 = nI im2 ∧ (cMost al (h + 1)).2 = al im2) → zT X d m_X7_hours (tA σ r (v_hours al ap x)) 0 0 52 [some (.ref 50), some (.int x), some (.int (nI im)), some (.int (cFair al ap h).1), some (.int (cFair al ap h).2), some (.int (nI h)), none] [.int (nI im2)] L0 (mm σ2 τ2 r) := by
        intro σ2 τ2 im2 S2 him2 hmo2
        have nxt : ∀ (σ3 : zSg) (τ3 : Nat → Nat → Int64) (f1 f2 : Int32), SG σ σ3 → (cFair al ap (h + 1)).1 = f1 → (cFair al ap (h + 1)).2 = f2 → zT X d m_X7_hours (tA σ r (v_hours al ap x)) 0 0 86 [some (.ref 50), some (.int x), some (.int (nI im2)), some (.int f1), some (.int f2), some (.int (nI h)), none] [] L0 (mm σ3 τ3 r) := by
          intro σ3 τ3 f1 f2 S3 hf1 hf2
          rw [← hf1, ← hf2]
          refine zT.step ct_X7_hours_ok ?_
          refine zT.step ct_X7_hours_ok ?_
          rw [nI_1]
          exact ih (h + 1) im2 σ3 τ3 (by omega) S3 him2 (Or.inr hmo2)
        have ef : cFair al ap (h + 1) = if al h = 0 then cFair al ap h else if (cFair al ap h).1 = -1 ∨ ap h < (cFair al ap h).2 then (nI h, ap h) else cFair al ap h := rfl
        refine zT.step ct_X7_hours_ok ?_
        refine zT.step ct_X7_hours_ok ?_
        refine zT.step ct_X7_hours_ok ?_
        refine zT.step ct_X7_hours_ok ?_
        refine And.intro ⟨by omega, by decide, _, rfl⟩ (zC.use (tp σ2 τ2 h S2 (by omega)) (fun y L2 μ2 hy => ?_))
        obtain ⟨rfl, rfl, σ3, τ3, rfl, S3⟩ := hy
        by_cases q0 : al h = 0
        · rw [if_pos q0] at ef ⊢
          refine zT.step ct_X7_hours_ok ?_
          refine zT.step ct_X7_hours_ok ?_
          refine zT.step ct_X7_hours_ok ?_
          refine zT.step ct_X7_hours_ok ?_
          refine And.intro (fun _ => ?_) (fun q => absurd rfl q)
          refine zT.drop 6 ?_
          exact nxt σ3 τ3 _ _ S3 (by rw [ef]) (by rw [ef])
        · rw [if_neg q0] at ef ⊢
          have q1 := apn h q0
          refine zT.step ct_X7_hours_ok ?_
          refine zT.step ct_X7_hours_ok ?_
          refine zT.step ct_X7_hours_ok ?_
          refine zT.step ct_X7_hours_ok ?_
          refine And.intro (fun q => absurd q q1) (fun _ => ?_)
          have put : (cFair al ap h).1 = -1 ∨ ap h < (cFair al ap h).2 → zT X d m_X7_hours (tA σ r (v_hours al ap x)) 0 0 79 [some (.ref 50), some (.int x), some (.int (nI im2)), some (.int (cFair al ap h).1), some (.int (cFair al ap h).2), some (.int (nI h)), some (.int (ap h))] [] L0 (mm σ3 τ3 r) := by
            intro z
            rw [if_pos z] at ef
            refine zT.step ct_X7_hours_ok ?_
            refine zT.step ct_X7_hours_ok ?_
            refine zT.step ct_X7_hours_ok ?_
            refine zT.step ct_X7_hours_ok ?_
            refine zT.drop 6 ?_
            exact nxt σ3 τ3 _ _ S3 (by rw [ef]) (by rw [ef])
          refine zT.step ct_X7_hours_ok ?_
          refine zT.step ct_X7_hours_ok ?_
          refine zT.step ct_X7_hours_ok ?_
          refine And.intro (fun z => put (Or.inl z)) (fun z => ?_)
          have z : ¬ (cFair al ap h).1 = -1 := z
          refine zT.step ct_X7_hours_ok ?_
          refine zT.step ct_X7_hours_ok ?_
          refine zT.step ct_X7_hours_ok ?_
          refine And.intro (fun z2 => ?_) (fun z2 => put (Or.inr (Int32.not_le.mp z2)))
          have z2 : (cFair al ap h).2 ≤ ap h := z2
          rw [if_neg (fun w => w.elim z (fun w => absurd w (Int32.not_lt.mpr z2)))] at ef
          refine zT.drop 6 ?_
          exact nxt σ3 τ3 _ _ S3 (by rw [ef]) (by rw [ef])
      have em : cMost al (h + 1) = if al h ≤ (cMost al h).2 then cMost al h else (nI h, al h) := rfl
      refine zT.step ct_X7_hours_ok ?_
      refine zT.step ct_X7_hours_ok ?_
      refine zT.step ct_X7_hours_ok ?_
      refine And.intro (fun q => absurd q (nI_ge (show h < 13 by omega) (by decide))) (fun _ => ?_)
      refine zT.step ct_X7_hours_ok ?_
      refine zT.step ct_X7_hours_ok ?_
      refine zT.step ct_X7_hours_ok ?_
      refine And.intro ⟨by omega, by decide, _, rfl⟩ (zC.use (ta σ1 τ1 h S (by omega)) (fun y L2 μ2 hy => ?_))
      obtain ⟨rfl, rfl, σ2, τ2, rfl, S2⟩ := hy
      refine zT.step ct_X7_hours_ok ?_
      refine zT.step ct_X7_hours_ok ?_
      refine zT.step ct_X7_hours_ok ?_
      refine And.intro ⟨by omega, by decide, _, rfl⟩ (zC.use (ta σ2 τ2 im S2 him) (fun y L2 μ2 hy => ?_))
      obtain ⟨rfl, rfl, σ3, τ3, rfl, S3⟩ := hy
      refine zT.step ct_X7_hours_ok ?_
      refine And.intro (fun q => ?_) (fun q => ?_)
      · have q : al h ≤ al im := q
        refine zT.step ct_X7_hours_ok ?_
        refine second σ3 τ3 im S3 him ?_
        rcases hmo with ⟨z1, z2⟩ | ⟨z1, z2⟩
        · subst z1 z2
          obtain ⟨v, hv, e⟩ := alb 0
          have : ¬ al 0 ≤ (cMost al 0).2 := by
            show ¬ al 0 ≤ -1
            intro w
            have w2 := Int32.le_trans (show (0 : Int32) ≤ al 0 by rw [e]; exact nI_pos' (by omega)) w
            exact absurd w2 (by decide)
          rw [em, if_neg this]
          exact ⟨rfl, rfl⟩
        · rw [em, z2, if_pos q]
          exact ⟨z1, z2⟩
      · have q : ¬ al h ≤ al im := q
        refine zT.step ct_X7_hours_ok ?_
        refine zT.step ct_X7_hours_ok ?_
        refine second σ3 τ3 h S3 (by omega) ?_
        rcases hmo with ⟨z1, z2⟩ | ⟨z1, z2⟩
        · subst z1 z2
          exact absurd (Int32.le_refl _) q
        · rw [em, z2, if_neg q]
          exact ⟨rfl, rfl⟩
  refine zC.of mk_X7_hours rfl ?_
  refine zT.step ct_X7_hours_ok ?_
  refine zT.step ct_X7_hours_ok ?_
  refine zT.step ct_X7_hours_ok ?_
  refine zT.step ct_X7_hours_ok ?_
  refine zT.step ct_X7_hours_ok ?_
  refine And.intro (by omega) (zF.use (t_inR (m := 3) (by decide) rfl) ?_)
  refine zT.step ct_X7_hours_ok ?_
  refine And.intro (fun q => ?_) (fun q => ?_)
  · have q := fb0 q
    refine zT.step ct_X7_hours_ok ?_
    refine zT.step ct_X7_hours_ok ?_
    refine And.intro ?_ (And.intro rfl ⟨σ, τ, rfl, SQ.rf⟩)
    unfold v_hours
    rw [if_pos]
    rw [← key] at q
    have q := of_decide_eq_false q
    by_cases z : x < 0
    · exact Or.inl z
    · exact Or.inr (Int32.not_le.mp (fun w => q ⟨Int32.not_lt.mp z, w⟩))
  · have q := fb1 q
    refine zT.step ct_X7_hours_ok ?_
    refine zT.step ct_X7_hours_ok ?_
    refine zT.step ct_X7_hours_ok ?_
    refine zT.step ct_X7_hours_ok ?_
    refine zT.step ct_X7_hours_ok ?_
    refine zT.step ct_X7_hours_ok ?_
    refine zT.step ct_X7_hours_ok ?_
    refine zT.step ct_X7_hours_ok ?_
    exact lp q 13 0 0 σ τ rfl SG.rf (by decide) (Or.inl ⟨rfl, rfl⟩)
