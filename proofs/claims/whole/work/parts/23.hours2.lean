/-! apart, mostHour, fairestHour, hours -/
def f_am (hd : Int32) (du : Nat → Int32) : Nat → Int32 × Int32
  | 0 => (0, 9999)
  | n + 1 => (if (f_am hd du n).1 < f_due hd du n then f_due hd du n else (f_am hd du n).1, if f_due hd du n < (f_am hd du n).2 then f_due hd du n else (f_am hd du n).2)
theorem f_am_congr {hd : Int32} {du du' : Nat → Int32} : ∀ (n : Nat), (∀ i, i < n → du i = du' i) → f_am hd du n = f_am hd du' n := by
  intro n
  induction n with
  | zero => intro _; rfl
  | succ n ih =>
    intro h
    have e : f_due hd du n = f_due hd du' n := by unfold f_due; rw [h n (by omega)]
    show (if (f_am hd du n).1 < f_due hd du n then f_due hd du n else (f_am hd du n).1, if f_due hd du n < (f_am hd du n).2 then f_due hd du n else (f_am hd du n).2) = (if (f_am hd du' n).1 < f_due hd du' n then f_due hd du' n else (f_am hd du' n).1, if f_due hd du' n < (f_am hd du' n).2 then f_due hd du' n else (f_am hd du' n).2)
    rw [ih (fun i hi => h i (by omega)), e]
theorem s_apart {X : zXs} {d n : Nat} {σ : zSg} {τ : Nat → Nat → Int64} {r : Option Nat} (hd : 1 ≤ d) (hn : n ≤ 8) (hm : σ 1 2 = nI n) : zF X d m_X4_apart [.ref 1] L0 (mm σ τ r) (some (.int ((f_am (σ 1 9) (σ 5) n).1 - (f_am (σ 1 9) (σ 5) n).2))) (mm σ τ r) := by
  have lp : ∀ (m i : Nat), i + m = n → zT X d m_X4_apart (fun w L2 μ2 => w = some (.int ((f_am (σ 1 9) (σ 5) n).1 - (f_am (σ 1 9) (σ 5) n).2)) ∧ L2 = L0 ∧ μ2 = mm σ τ r) 0 0 8 [some (.ref 1), some (.int (f_am (σ 1 9) (σ 5) i).1), some (.int (f_am (σ 1 9) (σ 5) i).2), some (.int (nI i))] [] L0 (mm σ τ r) := by
    intro m
    induction m with
    | zero =>
      intro i hi
      have hi : i = n := by omega
      subst hi
      refine zT.step ct_X4_apart_ok ?_
      refine zT.step ct_X4_apart_ok ?_
      refine zT.step ct_X4_apart_ok ?_
      refine And.intro ⟨by decide, _, rfl⟩ ?_
      refine zT.step ct_X4_apart_ok ?_
      refine And.intro (fun h => ?_) (fun h => ?_)
      · refine zT.step ct_X4_apart_ok ?_
        refine zT.step ct_X4_apart_ok ?_
        refine zT.step ct_X4_apart_ok ?_
        refine zT.step ct_X4_apart_ok ?_
        exact And.intro rfl (And.intro rfl rfl)
      · have h : ¬ σ 1 2 ≤ nI i := h
        rw [hm] at h
        exact absurd ((i_le rfl rfl (by omega) (by omega)).mpr (Nat.le_refl _)) h
    | succ m ih =>
      intro i hi
      refine zT.step ct_X4_apart_ok ?_
      refine zT.step ct_X4_apart_ok ?_
      refine zT.step ct_X4_apart_ok ?_
      refine And.intro ⟨by decide, _, rfl⟩ ?_
      refine zT.step ct_X4_apart_ok ?_
      refine And.intro (fun h => ?_) (fun h => ?_)
      · have h : σ 1 2 ≤ nI i := h
        rw [hm] at h
        have := (i_le (x := nI n) (y := nI i) rfl rfl (by omega) (by omega)).mp h
        omega
      · refine zT.step ct_X4_apart_ok ?_
        refine zT.step ct_X4_apart_ok ?_
        refine zT.step ct_X4_apart_ok ?_
        refine zT.step ct_X4_apart_ok ?_
        refine And.intro ⟨by omega, by decide, _, rfl⟩ (zF.use (s_dueOf (by omega)) ?_)
        refine zT.step ct_X4_apart_ok ?_
        refine And.intro hd ?_
        refine zT.step ct_X4_apart_ok ?_
        refine zT.step ct_X4_apart_ok ?_
        refine zT.step ct_X4_apart_ok ?_
        refine zT.step ct_X4_apart_ok ?_
        refine zT.step ct_X4_apart_ok ?_
        refine And.intro ⟨by omega, by decide, _, rfl⟩ (zF.use (s_dueOf (by omega)) ?_)
        refine zT.step ct_X4_apart_ok ?_
        refine And.intro hd ?_
        refine zT.step ct_X4_apart_ok ?_
        refine zT.step ct_X4_apart_ok ?_
        refine zT.step ct_X4_apart_ok ?_
        rw [nI_1]
        exact ih (i + 1) (by omega)
  refine zF.of mk_X4_apart rfl ?_
  refine zT.step ct_X4_apart_ok ?_
  refine zT.step ct_X4_apart_ok ?_
  refine zT.step ct_X4_apart_ok ?_
  refine zT.step ct_X4_apart_ok ?_
  refine zT.step ct_X4_apart_ok ?_
  refine zT.step ct_X4_apart_ok ?_
  exact lp n 0 (by omega)
def cAp (σ : zSg) (n t h : Nat) : Int32 := (f_am (cS σ n t h (-1)).1 (cD σ t h) n).1 - (f_am (cS σ n t h (-1)).1 (cD σ t h) n).2
theorem SE.eAp {a b : zSg} (h : SE a b) (n t x : Nat) : cAp b n t x = cAp a n t x := by
  unfold cAp
  rw [h.eS, h.eD]
theorem LK.ap {σ σ' : zSg} {n t h : Nat} (H : LK σ σ' n t h (-1)) : (f_am (σ' 1 9) (σ' 5) n).1 - (f_am (σ' 1 9) (σ' 5) n).2 = cAp σ n t h := by
  unfold cAp
  rw [H.2.2.2.1, f_am_congr n (fun i hi => (H.2.2.1 i hi).2)]
def cMost (al : Nat → Int32) : Nat → Int32 × Int32
  | 0 => (0, -1)
  | h + 1 => if al h ≤ (cMost al h).2 then cMost al h else (nI h, al h)
theorem s_mostHour {X : zXs} {d n t : Nat} {σ : zSg} {τ : Nat → Nat → Int64} {r : Option Nat} {w : Int32} (hd : 6 ≤ d) (hK : CK σ n t) : zC X d 0 0 m_X6_mostHour [.ref 0, .int w] L0 (mm σ τ r) (zA σ τ r (if w = 0 then (cMost (cAl σ n t) 13).2 else (cMost (cAl σ n t) 13).1)) := by
  have lp : ∀ (m h : Nat) (σ1 : zSg), h + m = 13 → SE σ σ1 → zT X d m_X6_mostHour (zA σ τ r (if w = 0 then (cMost (cAl σ n t) 13).2 else (cMost (cAl σ n t) 13).1)) 0 0 7 [some (.ref 0), some (.int w), some (.int (cMost (cAl σ n t) h).1), some (.int (cMost (cAl σ n t) h).2), some (.int (nI h)), none] [] L0 (mm σ1 τ r) := by
    intro m
    induction m with
    | zero =>
      intro h σ1 hh s1
      have hh : h = 13 := by omega
      subst hh
      refine zT.step ct_X6_mostHour_ok ?_
      refine zT.step ct_X6_mostHour_ok ?_
      refine zT.step ct_X6_mostHour_ok ?_
      refine And.intro (fun q => ?_) (fun q => ?_)
      · refine zT.step ct_X6_mostHour_ok ?_
        refine zT.step ct_X6_mostHour_ok ?_
        refine And.intro (fun q2 => ?_) (fun q2 => ?_)
        · have q2 : w = 0 := q2
          refine zT.step ct_X6_mostHour_ok ?_
          refine zT.step ct_X6_mostHour_ok ?_
          exact zA.mk (by rw [if_pos q2]) s1
        · have q2 : ¬ w = 0 := q2
          refine zT.step ct_X6_mostHour_ok ?_
          refine zT.step ct_X6_mostHour_ok ?_
          refine zT.step ct_X6_mostHour_ok ?_
          exact zA.mk (by rw [if_neg q2]) s1
      · exact absurd (show (13 : Int32) ≤ nI 13 by decide) q
    | succ m ih =>
      intro h σ1 hh s1
      refine zT.step ct_X6_mostHour_ok ?_
      refine zT.step ct_X6_mostHour_ok ?_
      refine zT.step ct_X6_mostHour_ok ?_
      refine And.intro (fun q => ?_) (fun q => ?_)
      · have := (i_le (x := 13) (a := 13) (y := nI h) rfl rfl (by omega) (by omega)).mp q
        omega
      refine zT.step ct_X6_mostHour_ok ?_
      refine zT.step ct_X6_mostHour_ok ?_
      refine And.intro ⟨by decide, _, rfl⟩ ?_
      refine zT.step ct_X6_mostHour_ok ?_
      refine zT.step ct_X6_mostHour_ok ?_
      refine And.intro ⟨by omega, by decide, _, rfl⟩ (zC.use (s_lookK (by omega) (hK.se s1) (show h < 13 by omega)) (fun w L2 μ2 hw => ?_))
      obtain ⟨rfl, rfl, σ', rfl, H⟩ := hw
      refine zT.step ct_X6_mostHour_ok ?_
      refine zT.step ct_X6_mostHour_ok ?_
      refine And.intro ⟨by decide, _, rfl⟩ ?_
      refine zT.step ct_X6_mostHour_ok ?_
      refine And.intro ⟨by omega, by decide, _, rfl⟩ (zF.use (s_dueOfAll (by omega) hK.1 ((hK.se s1).se H.se).2.1) ?_)
      rw [H.all, s1.eAl]
      have nx := ih (h + 1) σ' (by omega) (s1.trans H.se)
      refine zT.step ct_X6_mostHour_ok ?_
      refine zT.step ct_X6_mostHour_ok ?_
      refine zT.step ct_X6_mostHour_ok ?_
      refine zT.step ct_X6_mostHour_ok ?_
      refine And.intro (fun q2 => ?_) (fun q2 => ?_)
      · have q2 : cAl σ n t h ≤ (cMost (cAl σ n t) h).2 := q2
        have e : cMost (cAl σ n t) (h + 1) = cMost (cAl σ n t) h := if_pos q2
        rw [e] at nx
        refine zT.step ct_X6_mostHour_ok ?_
        refine zT.step ct_X6_mostHour_ok ?_
        rw [nI_1]
        refine zT.drop 5 ?_
        exact nx
      · have q2 : ¬ cAl σ n t h ≤ (cMost (cAl σ n t) h).2 := q2
        have e : cMost (cAl σ n t) (h + 1) = (nI h, cAl σ n t h) := if_neg q2
        rw [e] at nx
        refine zT.step ct_X6_mostHour_ok ?_
        refine zT.step ct_X6_mostHour_ok ?_
        refine zT.step ct_X6_mostHour_ok ?_
        refine zT.step ct_X6_mostHour_ok ?_
        refine zT.step ct_X6_mostHour_ok ?_
        refine zT.step ct_X6_mostHour_ok ?_
        rw [nI_1]
        refine zT.drop 5 ?_
        exact nx
  refine zC.of mk_X6_mostHour rfl ?_
  refine zT.step ct_X6_mostHour_ok ?_
  refine zT.step ct_X6_mostHour_ok ?_
  refine zT.step ct_X6_mostHour_ok ?_
  refine zT.step ct_X6_mostHour_ok ?_
  refine zT.step ct_X6_mostHour_ok ?_
  refine zT.step ct_X6_mostHour_ok ?_
  exact lp 13 0 σ rfl SE.rf
def cFair (al ap : Nat → Int32) : Nat → Int32 × Int32
  | 0 => (-1, -1)
  | h + 1 => if al h = 0 then cFair al ap h else if (cFair al ap h).1 = -1 ∨ ap h < (cFair al ap h).2 then (nI h, ap h) else cFair al ap h
theorem s_fairestHour {X : zXs} {d n t : Nat} {σ : zSg} {τ : Nat → Nat → Int64} {r : Option Nat} {w : Int32} (hd : 6 ≤ d) (hK : CK σ n t) : zC X d 0 0 m_X6_fairestHour [.ref 0, .int w] L0 (mm σ τ r) (zA σ τ r (if w = 0 then (cFair (cAl σ n t) (cAp σ n t) 13).2 else (cFair (cAl σ n t) (cAp σ n t) 13).1)) := by
  have lp : ∀ (m h : Nat) (σ1 : zSg), h + m = 13 → SE σ σ1 → zT X d m_X6_fairestHour (zA σ τ r (if w = 0 then (cFair (cAl σ n t) (cAp σ n t) 13).2 else (cFair (cAl σ n t) (cAp σ n t) 13).1)) 0 0 7 [some (.ref 0), some (.int w), some (.int (cFair (cAl σ n t) (cAp σ n t) h).1), some (.int (cFair (cAl σ n t) (cAp σ n t) h).2), some (.int (nI h)), none] [] L0 (mm σ1 τ r) := by
    intro m
    induction m with
    | zero =>
      intro h σ1 hh s1
      have hh : h = 13 := by omega
      subst hh
      refine zT.step ct_X6_fairestHour_ok ?_
      refine zT.step ct_X6_fairestHour_ok ?_
      refine zT.step ct_X6_fairestHour_ok ?_
      refine And.intro (fun q => ?_) (fun q => ?_)
      · refine zT.step ct_X6_fairestHour_ok ?_
        refine zT.step ct_X6_fairestHour_ok ?_
        refine And.intro (fun q2 => ?_) (fun q2 => ?_)
        · have q2 : w = 0 := q2
          refine zT.step ct_X6_fairestHour_ok ?_
          refine zT.step ct_X6_fairestHour_ok ?_
          exact zA.mk (by rw [if_pos q2]) s1
        · have q2 : ¬ w = 0 := q2
          refine zT.step ct_X6_fairestHour_ok ?_
          refine zT.step ct_X6_fairestHour_ok ?_
          refine zT.step ct_X6_fairestHour_ok ?_
          exact zA.mk (by rw [if_neg q2]) s1
      · exact absurd (show (13 : Int32) ≤ nI 13 by decide) q
    | succ m ih =>
      intro h σ1 hh s1
      refine zT.step ct_X6_fairestHour_ok ?_
      refine zT.step ct_X6_fairestHour_ok ?_
      refine zT.step ct_X6_fairestHour_ok ?_
      refine And.intro (fun q => ?_) (fun q => ?_)
      · have := (i_le (x := 13) (a := 13) (y := nI h) rfl rfl (by omega) (by omega)).mp q
        omega
      refine zT.step ct_X6_fairestHour_ok ?_
      refine zT.step ct_X6_fairestHour_ok ?_
      refine And.intro ⟨by decide, _, rfl⟩ ?_
      refine zT.step ct_X6_fairestHour_ok ?_
      refine zT.step ct_X6_fairestHour_ok ?_
      refine And.intro ⟨by omega, by decide, _, rfl⟩ (zC.use (s_lookK (by omega) (hK.se s1) (show h < 13 by omega)) (fun w L2 μ2 hw => ?_))
      obtain ⟨rfl, rfl, σ', rfl, H⟩ := hw
      refine zT.step ct_X6_fairestHour_ok ?_
      refine zT.step ct_X6_fairestHour_ok ?_
      refine And.intro ⟨by decide, _, rfl⟩ ?_
      refine zT.step ct_X6_fairestHour_ok ?_
      refine And.intro ⟨by omega, by decide, _, rfl⟩ (zF.use (s_dueOfAll (by omega) hK.1 ((hK.se s1).se H.se).2.1) ?_)
      rw [H.all, s1.eAl]
      have nx := ih (h + 1) σ' (by omega) (s1.trans H.se)
      refine zT.step ct_X6_fairestHour_ok ?_
      refine And.intro (fun q2 => ?_) (fun q2 => ?_)
      · have q2 : cAl σ n t h = 0 := q2
        have e : cFair (cAl σ n t) (cAp σ n t) (h + 1) = cFair (cAl σ n t) (cAp σ n t) h := if_pos q2
        rw [e] at nx
        refine zT.step ct_X6_fairestHour_ok ?_
        refine zT.step ct_X6_fairestHour_ok ?_
        refine zT.step ct_X6_fairestHour_ok ?_
        rw [nI_1]
        exact nx
      have q2 : ¬ cAl σ n t h = 0 := q2
      refine zT.step ct_X6_fairestHour_ok ?_
      refine zT.step ct_X6_fairestHour_ok ?_
      refine And.intro ⟨by decide, _, rfl⟩ ?_
      refine zT.step ct_X6_fairestHour_ok ?_
      refine And.intro ⟨by omega, by decide, _, rfl⟩ (zF.use (s_apart (by omega) hK.1 ((hK.se s1).se H.se).2.1) ?_)
      rw [H.ap, s1.eAp]
      have take : (cFair (cAl σ n t) (cAp σ n t) h).1 = -1 ∨ cAp σ n t h < (cFair (cAl σ n t) (cAp σ n t) h).2 → zT X d m_X6_fairestHour (zA σ τ r (if w = 0 then (cFair (cAl σ n t) (cAp σ n t) 13).2 else (cFair (cAl σ n t) (cAp σ n t) 13).1)) 0 0 56 [some (.ref 0), some (.int w), some (.int (cFair (cAl σ n t) (cAp σ n t) h).1), some (.int (cFair (cAl σ n t) (cAp σ n t) h).2), some (.int (nI h)), some (.int (cAp σ n t h))] [] L0 (mm σ' τ r) := by
        intro q3
        have e : cFair (cAl σ n t) (cAp σ n t) (h + 1) = (nI h, cAp σ n t h) := (if_neg q2).trans (if_pos q3)
        rw [e] at nx
        refine zT.step ct_X6_fairestHour_ok ?_
        refine zT.step ct_X6_fairestHour_ok ?_
        refine zT.step ct_X6_fairestHour_ok ?_
        refine zT.step ct_X6_fairestHour_ok ?_
        refine zT.step ct_X6_fairestHour_ok ?_
        refine zT.step ct_X6_fairestHour_ok ?_
        rw [nI_1]
        refine zT.drop 5 ?_
        exact nx
      refine zT.step ct_X6_fairestHour_ok ?_
      refine zT.step ct_X6_fairestHour_ok ?_
      refine zT.step ct_X6_fairestHour_ok ?_
      refine zT.step ct_X6_fairestHour_ok ?_
      refine And.intro (fun q3 => take (Or.inl q3)) (fun q3 => ?_)
      refine zT.step ct_X6_fairestHour_ok ?_
      refine zT.step ct_X6_fairestHour_ok ?_
      refine zT.step ct_X6_fairestHour_ok ?_
      refine And.intro (fun q4 => ?_) (fun q4 => take (Or.inr (Int32.not_le.mp q4)))
      have e : cFair (cAl σ n t) (cAp σ n t) (h + 1) = cFair (cAl σ n t) (cAp σ n t) h := (if_neg q2).trans (if_neg (fun z => z.elim q3 (fun z => absurd z (Int32.not_lt.mpr q4))))
      rw [e] at nx
      refine zT.step ct_X6_fairestHour_ok ?_
      refine zT.step ct_X6_fairestHour_ok ?_
      rw [nI_1]
      refine zT.drop 5 ?_
      exact nx
  refine zC.of mk_X6_fairestHour rfl ?_
  refine zT.step ct_X6_fairestHour_ok ?_
  refine zT.step ct_X6_fairestHour_ok ?_
  refine zT.step ct_X6_fairestHour_ok ?_
  refine zT.step ct_X6_fairestHour_ok ?_
  refine zT.step ct_X6_fairestHour_ok ?_
  refine zT.step ct_X6_fairestHour_ok ?_
  exact lp 13 0 σ rfl SE.rf
def v_hours (al ap : Nat → Int32) (x : Int32) : Int32 := if x < 0 ∨ 3 < x then -2 else if x = 0 then (cMost al 13).1 else if x < 2 then (cMost al 13).2 else if x = 2 then (cFair al ap 13).1 else (cFair al ap 13).2
theorem s_hours {X : zXs} {d n t : Nat} {σ : zSg} {τ : Nat → Nat → Int64} {r : Option Nat} {x : Int32} (hd : 7 ≤ d) (hK : CK σ n t) : zC X d 0 0 m_X6_hours [.ref 0, .int x] L0 (mm σ τ r) (zA σ τ r (v_hours (cAl σ n t) (cAp σ n t) x)) := by
  refine zC.of mk_X6_hours rfl ?_
  refine zT.step ct_X6_hours_ok ?_
  refine zT.step ct_X6_hours_ok ?_
  refine And.intro (fun q => ?_) (fun q => ?_)
  · have q : x < 0 := q
    refine zT.step ct_X6_hours_ok ?_
    refine zT.step ct_X6_hours_ok ?_
    exact zA.mk (by unfold v_hours; rw [if_pos (Or.inl q)]) SE.rf
  have q : ¬ x < 0 := q
  refine zT.step ct_X6_hours_ok ?_
  refine zT.step ct_X6_hours_ok ?_
  refine zT.step ct_X6_hours_ok ?_
  refine And.intro (fun q2 => ?_) (fun q2 => ?_)
  · have q2 : x ≤ 3 := q2
    have hb : ¬ (x < 0 ∨ 3 < x) := fun z => z.elim q (fun z => absurd q2 (Int32.not_le.mpr z))
    refine zT.step ct_X6_hours_ok ?_
    refine zT.step ct_X6_hours_ok ?_
    refine zT.step ct_X6_hours_ok ?_
    refine And.intro (fun q3 => ?_) (fun q3 => ?_)
    · have q3 : 2 ≤ x := q3
      have n0 : ¬ x = 0 := fun z => absurd q3 (by rw [z]; decide)
      have n2 : ¬ x < 2 := Int32.not_lt.mpr q3
      refine zT.step ct_X6_hours_ok ?_
      refine zT.step ct_X6_hours_ok ?_
      refine zT.step ct_X6_hours_ok ?_
      refine zT.step ct_X6_hours_ok ?_
      refine And.intro (fun q4 => ?_) (fun q4 => ?_)
      · have q4 : x = 2 := q4
        refine zT.step ct_X6_hours_ok ?_
        refine zT.step ct_X6_hours_ok ?_
        refine zT.step ct_X6_hours_ok ?_
        refine And.intro ⟨by omega, by decide, _, rfl⟩ (zC.use (s_fairestHour (by omega) hK) (fun w L2 μ2 hw => ?_))
        obtain ⟨rfl, rfl, σ', rfl, H⟩ := hw
        refine zT.step ct_X6_hours_ok ?_
        exact zA.mk (by unfold v_hours; rw [if_neg hb, if_neg n0, if_neg n2, if_pos q4]; rfl) H
      · have q4 : ¬ x = 2 := q4
        refine zT.step ct_X6_hours_ok ?_
        refine zT.step ct_X6_hours_ok ?_
        refine And.intro ⟨by omega, by decide, _, rfl⟩ (zC.use (s_fairestHour (by omega) hK) (fun w L2 μ2 hw => ?_))
        obtain ⟨rfl, rfl, σ', rfl, H⟩ := hw
        refine zT.step ct_X6_hours_ok ?_
        exact zA.mk (by unfold v_hours; rw [if_neg hb, if_neg n0, if_neg n2, if_neg q4]; rfl) H
    · have q3 : ¬ 2 ≤ x := q3
      have n2 : x < 2 := Int32.not_le.mp q3
      refine zT.step ct_X6_hours_ok ?_
      refine zT.step ct_X6_hours_ok ?_
      refine zT.step ct_X6_hours_ok ?_
      refine And.intro (fun q4 => ?_) (fun q4 => ?_)
      · have q4 : x = 0 := q4
        refine zT.step ct_X6_hours_ok ?_
        refine zT.step ct_X6_hours_ok ?_
        refine zT.step ct_X6_hours_ok ?_
        refine And.intro ⟨by omega, by decide, _, rfl⟩ (zC.use (s_mostHour (by omega) hK) (fun w L2 μ2 hw => ?_))
        obtain ⟨rfl, rfl, σ', rfl, H⟩ := hw
        refine zT.step ct_X6_hours_ok ?_
        refine zT.step ct_X6_hours_ok ?_
        exact zA.mk (by unfold v_hours; rw [if_neg hb, if_pos q4]; rfl) H
      · have q4 : ¬ x = 0 := q4
        refine zT.step ct_X6_hours_ok ?_
        refine zT.step ct_X6_hours_ok ?_
        refine And.intro ⟨by omega, by decide, _, rfl⟩ (zC.use (s_mostHour (by omega) hK) (fun w L2 μ2 hw => ?_))
        obtain ⟨rfl, rfl, σ', rfl, H⟩ := hw
        refine zT.step ct_X6_hours_ok ?_
        refine zT.step ct_X6_hours_ok ?_
        exact zA.mk (by unfold v_hours; rw [if_neg hb, if_neg q4, if_pos n2]; rfl) H
  · have q2 : ¬ x ≤ 3 := q2
    refine zT.step ct_X6_hours_ok ?_
    refine zT.step ct_X6_hours_ok ?_
    exact zA.mk (by unfold v_hours; rw [if_pos (Or.inr (Int32.not_le.mp q2))]) SE.rf
