/-! the class's answers hour by hour -/
def rg (x : Int32) (n : Nat) : Bool := decide (0 ≤ x ∧ x < nI n)
theorem rg_t {x : Int32} {n : Nat} (hn : n < 2 ^ 31) (h : rg x n = true) : ∃ i, i < n ∧ x = nI i := by
  have h := of_decide_eq_true h
  obtain ⟨j, hj, rfl⟩ := nI_of (x := x) (Int32.not_lt.mpr h.1)
  exact ⟨j, (nI_ltI hj hn).mp h.2, rfl⟩
theorem rg_i {i n : Nat} (hn : n < 2 ^ 31) (h : i < n) : rg (nI i) n = true := decide_eq_true ⟨nI_pos' (by omega), (nI_ltI (by omega) hn).mpr h⟩
theorem fb0 {b : Bool} (h : f_b b = 0) : b = false := by
  cases b with
  | false => rfl
  | true => exact absurd h (by decide)
theorem fb1 {b : Bool} (h : ¬ f_b b = 0) : b = true := by
  cases b with
  | true => rfl
  | false => exact absurd rfl h
/-- the class's square: n things, rule t -/
def CK (σ : zSg) (n t : Nat) : Prop := n ≤ 8 ∧ σ 1 2 = nI n ∧ t < 6 ∧ σ 1 4 = nI t ∧ RW σ t ∧ σ 1 11 = -1
theorem CK.se {σ σ' : zSg} {n t : Nat} (h : CK σ n t) (s : SE σ σ') : CK σ' n t :=
  ⟨h.1, by rw [s.2 2 (by decide) (by decide)]; exact h.2.1, h.2.2.1, by rw [s.2 4 (by decide) (by decide)]; exact h.2.2.2.1, s.RW h.2.2.2.2.1, by rw [s.2 11 (by decide) (by decide)]; exact h.2.2.2.2.2⟩
theorem s_hasK {X : zXs} {d n t : Nat} {σ : zSg} {τ : Nat → Nat → Int64} {r : Option Nat} {x : Int32} (hK : CK σ n t) : zF X d m_X4_has [.ref 1, .int x] L0 (mm σ τ r) (some (.int (f_b (rg x n)))) (mm σ τ r) := by
  have h := s_has (X := X) (d := d) (σ := σ) (τ := τ) (r := r) (t := x)
  have e : decide (0 ≤ x ∧ x < σ 1 2 ∧ x < 8) = rg x n := by
    unfold rg
    rw [hK.2.1, decide_eq_decide]
    refine ⟨fun q => ⟨q.1, q.2.1⟩, fun q => ⟨q.1, q.2, ?_⟩⟩
    have h8 : nI n ≤ 8 := (i_le (x := nI n) (y := 8) (b := 8) rfl rfl (by have := hK.1; omega) (by omega)).mpr hK.1
    exact Int32.lt_of_lt_of_le q.2 h8
  rw [e] at h
  exact h
theorem s_isHourK {X : zXs} {d : Nat} {L : List zSh} {μ : zMem} {h : Int32} : zF X d m_X6_isHour [.int h] L μ (some (.int (f_b (rg h 13)))) μ := s_isHour
theorem s_lookK {X : zXs} {d n t h : Nat} {σ : zSg} {τ : Nat → Nat → Int64} {r : Option Nat} (hd : 5 ≤ d) (hK : CK σ n t) (hh : h < 13) : zC X d 0 0 m_X4_look [.ref 1, .int (nI h)] L0 (mm σ τ r) (fun w L2 μ2 => w = none ∧ L2 = L0 ∧ ∃ σ' : zSg, μ2 = mm σ' τ r ∧ LK σ σ' n t h (-1)) := by
  have h1 := s_look (X := X) (d := d) (τ := τ) (r := r) (h := h) hd hK.1 hK.2.1 hh hK.2.2.1 hK.2.2.2.1 hK.2.2.2.2.1
  rw [hK.2.2.2.2.2] at h1
  exact h1
def cDu (σ : zSg) (n t h : Nat) (i : Nat) : Int32 := f_due (cS σ n t h (-1)).1 (cD σ t h) i
def cAl (σ : zSg) (n t h : Nat) : Int32 := f_all (cS σ n t h (-1)).1 (cD σ t h) n
theorem SE.eDu {a b : zSg} (h : SE a b) (n t x : Nat) : cDu b n t x = cDu a n t x := by
  funext i
  unfold cDu
  rw [h.eS, h.eD]
theorem SE.eAl {a b : zSg} (h : SE a b) (n t x : Nat) : cAl b n t x = cAl a n t x := by
  unfold cAl
  rw [h.eS, h.eD]
theorem LK.due {σ σ' : zSg} {n t h : Nat} (H : LK σ σ' n t h (-1)) {i : Nat} (hi : i < n) : f_due (σ' 1 9) (σ' 5) i = cDu σ n t h i := by
  unfold cDu f_due
  rw [H.2.2.2.1, (H.2.2.1 i hi).2]
theorem LK.all {σ σ' : zSg} {n t h : Nat} (H : LK σ σ' n t h (-1)) : f_all (σ' 1 9) (σ' 5) n = cAl σ n t h := by
  unfold cAl
  rw [H.2.2.2.1]
  exact f_all_congr n (fun i hi => (H.2.2.1 i hi).2)
/-- an answer that leaves the square as it was -/
def zA (σ : zSg) (τ : Nat → Nat → Int64) (r : Option Nat) (v : Int32) : zRQ := fun w L2 μ2 => w = some (.int v) ∧ L2 = L0 ∧ ∃ σ' : zSg, μ2 = mm σ' τ r ∧ SE σ σ'
theorem zA.mk {σ : zSg} {τ : Nat → Nat → Int64} {r : Option Nat} {v w : Int32} {σ' : zSg} (hv : w = v) (h : SE σ σ') : zA σ τ r v (some (.int w)) L0 (mm σ' τ r) := ⟨by rw [hv], rfl, σ', rfl, h⟩
def v_hour (σ : zSg) (n t : Nat) (x y z : Int32) : Int32 := bif rg x n && rg y 13 && rg z 3 then (if z = 0 then cL σ t y.toNatClampNeg x.toNatClampNeg else if z = 1 then (cS σ n t y.toNatClampNeg (-1)).1 >>> (x &&& 31) &&& 1 else cDu σ n t y.toNatClampNeg x.toNatClampNeg) else -2
theorem rg_neg {x : Int32} {n : Nat} (h : x < 0) : rg x n = false := decide_eq_false fun q => absurd q.1 (Int32.not_le.mpr h)
theorem rg_ge {x : Int32} {n : Nat} (h : nI n ≤ x) : rg x n = false := decide_eq_false fun q => absurd q.2 (Int32.not_lt.mpr h)
theorem rg_in {x : Int32} {n : Nat} (h : ¬ x < 0) (h2 : x < nI n) : rg x n = true := decide_eq_true ⟨Int32.not_lt.mp h, h2⟩
theorem le_lt {x : Int32} {m : Nat} (hm : m + 1 < 2 ^ 31) : x ≤ nI m ↔ x < nI (m + 1) := by
  rw [Int32.le_iff_toInt_le, Int32.lt_iff_toInt_lt, nI_toInt (by omega), nI_toInt hm]
  omega
theorem s_hour {X : zXs} {d n t : Nat} {σ : zSg} {τ : Nat → Nat → Int64} {r : Option Nat} {x y z : Int32} (hd : 6 ≤ d) (hK : CK σ n t) : zC X d 0 0 m_X6_hour [.ref 0, .int x, .int y, .int z] L0 (mm σ τ r) (zA σ τ r (v_hour σ n t x y z)) := by
  have bad : (rg x n && rg y 13 && rg z 3) = false → zT X d m_X6_hour (zA σ τ r (v_hour σ n t x y z)) 0 0 27 [some (.ref 0), some (.int x), some (.int y), some (.int z)] [] L0 (mm σ τ r) := by
    intro h
    refine zT.step ct_X6_hour_ok ?_
    refine zT.step ct_X6_hour_ok ?_
    exact zA.mk (by unfold v_hour; rw [h]; rfl) SE.rf
  refine zC.of mk_X6_hour rfl ?_
  refine zT.step ct_X6_hour_ok ?_
  refine zT.step ct_X6_hour_ok ?_
  refine And.intro ⟨by decide, _, rfl⟩ ?_
  refine zT.step ct_X6_hour_ok ?_
  refine zT.step ct_X6_hour_ok ?_
  refine And.intro ⟨by omega, by decide, _, rfl⟩ (zF.use (s_hasK hK) ?_)
  refine zT.step ct_X6_hour_ok ?_
  refine And.intro (fun q => ?_) (fun q => ?_)
  · exact bad (by rw [fb0 q]; rfl)
  have hx := fb1 q
  refine zT.step ct_X6_hour_ok ?_
  refine zT.step ct_X6_hour_ok ?_
  refine And.intro (by omega) (zF.use s_isHourK ?_)
  refine zT.step ct_X6_hour_ok ?_
  refine And.intro (fun q => ?_) (fun q => ?_)
  · exact bad (by rw [fb0 q, hx]; rfl)
  have hy := fb1 q
  refine zT.step ct_X6_hour_ok ?_
  refine zT.step ct_X6_hour_ok ?_
  refine And.intro (fun q => ?_) (fun q => ?_)
  · exact bad (by rw [hx, hy, rg_neg q]; rfl)
  have h0 : ¬ z < 0 := q
  refine zT.step ct_X6_hour_ok ?_
  refine zT.step ct_X6_hour_ok ?_
  refine zT.step ct_X6_hour_ok ?_
  refine And.intro (fun q => ?_) (fun q => ?_)
  · have q : z ≤ nI 2 := q
    have hz : rg z 3 = true := rg_in h0 ((le_lt (by omega)).mp q)
    obtain ⟨i, hi, rfl⟩ := rg_t (by have := hK.1; omega) hx
    obtain ⟨h, hh, rfl⟩ := rg_t (by omega) hy
    have hi8 : i < 8 := by have := hK.1; omega
    have hv : v_hour σ n t (nI i) (nI h) z = (if z = 0 then cL σ t h i else if z = 1 then (cS σ n t h (-1)).1 >>> (nI i &&& 31) &&& 1 else cDu σ n t h i) := by
      unfold v_hour
      rw [hx, hy, hz, nI_clamp (by omega), nI_clamp (by omega)]
      rfl
    refine zT.step ct_X6_hour_ok ?_
    refine zT.step ct_X6_hour_ok ?_
    refine And.intro ⟨by decide, _, rfl⟩ ?_
    refine zT.step ct_X6_hour_ok ?_
    refine zT.step ct_X6_hour_ok ?_
    refine And.intro ⟨by omega, by decide, _, rfl⟩ (zC.use (s_lookK (by omega) hK hh) (fun w L2 μ2 hw => ?_))
    obtain ⟨rfl, rfl, σ', rfl, H⟩ := hw
    refine zT.step ct_X6_hour_ok ?_
    refine zT.step ct_X6_hour_ok ?_
    refine And.intro (fun z0 => ?_) (fun z0 => ?_)
    · have z0 : z = 0 := z0
      refine zT.step ct_X6_hour_ok ?_
      refine zT.step ct_X6_hour_ok ?_
      refine And.intro ⟨by decide, _, rfl⟩ ?_
      refine zT.step ct_X6_hour_ok ?_
      refine And.intro ⟨by decide, _, rfl⟩ ?_
      refine zT.step ct_X6_hour_ok ?_
      refine zT.step ct_X6_hour_ok ?_
      refine Exists.intro i (And.intro ⟨rfl, by decide, 8, rfl, hi8, by decide⟩ ?_)
      refine zT.step ct_X6_hour_ok ?_
      exact zA.mk (by rw [hv, if_pos z0]; exact (H.2.2.1 i hi).1) H.se
    have z0 : ¬ z = 0 := z0
    refine zT.step ct_X6_hour_ok ?_
    refine zT.step ct_X6_hour_ok ?_
    refine zT.step ct_X6_hour_ok ?_
    refine And.intro (fun z1 => ?_) (fun z1 => ?_)
    · have z1 : z = 1 := z1
      refine zT.step ct_X6_hour_ok ?_
      refine zT.step ct_X6_hour_ok ?_
      refine And.intro ⟨by decide, _, rfl⟩ ?_
      refine zT.step ct_X6_hour_ok ?_
      refine And.intro ⟨by decide, _, rfl⟩ ?_
      refine zT.step ct_X6_hour_ok ?_
      refine zT.step ct_X6_hour_ok ?_
      refine zT.step ct_X6_hour_ok ?_
      refine zT.step ct_X6_hour_ok ?_
      refine zT.step ct_X6_hour_ok ?_
      exact zA.mk (by rw [hv, if_neg z0, if_pos z1, ← H.2.2.2.1]; rfl) H.se
    · have z1 : ¬ z = 1 := z1
      refine zT.step ct_X6_hour_ok ?_
      refine zT.step ct_X6_hour_ok ?_
      refine And.intro ⟨by decide, _, rfl⟩ ?_
      refine zT.step ct_X6_hour_ok ?_
      refine zT.step ct_X6_hour_ok ?_
      refine And.intro ⟨by omega, by decide, _, rfl⟩ (zF.use (s_dueOf hi8) ?_)
      refine zT.step ct_X6_hour_ok ?_
      exact zA.mk (by rw [hv, if_neg z0, if_neg z1]; exact H.due hi) H.se
  · have q : ¬ z ≤ nI 2 := q
    exact bad (by rw [hx, hy, rg_ge (Int32.not_lt.mp (fun z => q ((le_lt (by omega)).mpr z)))]; rfl)
def cDay (σ : zSg) (n t : Nat) : Nat → Int32
  | 0 => 0
  | h + 1 => cDay σ n t h + cAl σ n t h
theorem s_dueOfDay {X : zXs} {d n t : Nat} {σ : zSg} {τ : Nat → Nat → Int64} {r : Option Nat} (hd : 6 ≤ d) (hK : CK σ n t) : zC X d 0 0 m_X4_dueOfDay [.ref 1] L0 (mm σ τ r) (zA σ τ r (cDay σ n t 13)) := by
  have lp : ∀ (m h : Nat) (σ1 : zSg), h + m = 13 → SE σ σ1 → zT X d m_X4_dueOfDay (zA σ τ r (cDay σ n t 13)) 0 0 4 [some (.ref 1), some (.int (cDay σ n t h)), some (.int (nI h))] [] L0 (mm σ1 τ r) := by
    intro m
    induction m with
    | zero =>
      intro h σ1 hh s1
      have hh : h = 13 := by omega
      subst hh
      refine zT.step ct_X4_dueOfDay_ok ?_
      refine zT.step ct_X4_dueOfDay_ok ?_
      refine zT.step ct_X4_dueOfDay_ok ?_
      refine And.intro (fun q => ?_) (fun q => ?_)
      · refine zT.step ct_X4_dueOfDay_ok ?_
        refine zT.step ct_X4_dueOfDay_ok ?_
        exact zA.mk rfl s1
      · exact absurd (show (13 : Int32) ≤ nI 13 by decide) q
    | succ m ih =>
      intro h σ1 hh s1
      refine zT.step ct_X4_dueOfDay_ok ?_
      refine zT.step ct_X4_dueOfDay_ok ?_
      refine zT.step ct_X4_dueOfDay_ok ?_
      refine And.intro (fun q => ?_) (fun q => ?_)
      · have := (i_le (x := 13) (a := 13) (y := nI h) rfl rfl (by omega) (by omega)).mp q
        omega
      refine zT.step ct_X4_dueOfDay_ok ?_
      refine zT.step ct_X4_dueOfDay_ok ?_
      refine zT.step ct_X4_dueOfDay_ok ?_
      refine And.intro ⟨by omega, by decide, _, rfl⟩ (zC.use (s_lookK (by omega) (hK.se s1) (show h < 13 by omega)) (fun w L2 μ2 hw => ?_))
      obtain ⟨rfl, rfl, σ', rfl, H⟩ := hw
      refine zT.step ct_X4_dueOfDay_ok ?_
      refine zT.step ct_X4_dueOfDay_ok ?_
      refine zT.step ct_X4_dueOfDay_ok ?_
      refine And.intro ⟨by omega, by decide, _, rfl⟩ (zF.use (s_dueOfAll (by omega) hK.1 ((hK.se s1).se H.se).2.1) ?_)
      rw [H.all, s1.eAl]
      refine zT.step ct_X4_dueOfDay_ok ?_
      refine zT.step ct_X4_dueOfDay_ok ?_
      refine zT.step ct_X4_dueOfDay_ok ?_
      refine zT.step ct_X4_dueOfDay_ok ?_
      rw [nI_1]
      exact ih (h + 1) σ' (by omega) (s1.trans H.se)
  refine zC.of mk_X4_dueOfDay rfl ?_
  refine zT.step ct_X4_dueOfDay_ok ?_
  refine zT.step ct_X4_dueOfDay_ok ?_
  refine zT.step ct_X4_dueOfDay_ok ?_
  refine zT.step ct_X4_dueOfDay_ok ?_
  exact lp 13 0 σ rfl SE.rf
def v_takes (σ : zSg) (n t : Nat) (x : Int32) : Int32 := if x = -1 then cDay σ n t 13 else bif rg x 13 then cAl σ n t x.toNatClampNeg else -2
theorem s_takes {X : zXs} {d n t : Nat} {σ : zSg} {τ : Nat → Nat → Int64} {r : Option Nat} {x : Int32} (hd : 7 ≤ d) (hK : CK σ n t) : zC X d 0 0 m_X6_takes [.ref 0, .int x] L0 (mm σ τ r) (zA σ τ r (v_takes σ n t x)) := by
  refine zC.of mk_X6_takes rfl ?_
  refine zT.step ct_X6_takes_ok ?_
  refine zT.step ct_X6_takes_ok ?_
  refine zT.step ct_X6_takes_ok ?_
  refine And.intro (fun q => ?_) (fun q => ?_)
  · have q : x = -1 := q
    refine zT.step ct_X6_takes_ok ?_
    refine zT.step ct_X6_takes_ok ?_
    refine And.intro ⟨by decide, _, rfl⟩ ?_
    refine zT.step ct_X6_takes_ok ?_
    refine And.intro ⟨by omega, by decide, _, rfl⟩ (zC.use (s_dueOfDay (by omega) hK) (fun w L2 μ2 hw => ?_))
    obtain ⟨rfl, rfl, σ', rfl, H⟩ := hw
    refine zT.step ct_X6_takes_ok ?_
    exact zA.mk (by unfold v_takes; rw [if_pos q]) H
  have q : ¬ x = -1 := q
  refine zT.step ct_X6_takes_ok ?_
  refine zT.step ct_X6_takes_ok ?_
  refine And.intro (by omega) (zF.use s_isHourK ?_)
  refine zT.step ct_X6_takes_ok ?_
  refine And.intro (fun q2 => ?_) (fun q2 => ?_)
  · refine zT.step ct_X6_takes_ok ?_
    refine zT.step ct_X6_takes_ok ?_
    exact zA.mk (by unfold v_takes; rw [if_neg q, fb0 q2]; rfl) SE.rf
  · have hx := fb1 q2
    obtain ⟨h, hh, rfl⟩ := rg_t (by omega) hx
    refine zT.step ct_X6_takes_ok ?_
    refine zT.step ct_X6_takes_ok ?_
    refine And.intro ⟨by decide, _, rfl⟩ ?_
    refine zT.step ct_X6_takes_ok ?_
    refine zT.step ct_X6_takes_ok ?_
    refine And.intro ⟨by omega, by decide, _, rfl⟩ (zC.use (s_lookK (by omega) hK hh) (fun w L2 μ2 hw => ?_))
    obtain ⟨rfl, rfl, σ', rfl, H⟩ := hw
    refine zT.step ct_X6_takes_ok ?_
    refine zT.step ct_X6_takes_ok ?_
    refine And.intro ⟨by decide, _, rfl⟩ ?_
    refine zT.step ct_X6_takes_ok ?_
    refine And.intro ⟨by omega, by decide, _, rfl⟩ (zF.use (s_dueOfAll (by omega) hK.1 (hK.se H.se).2.1) ?_)
    refine zT.step ct_X6_takes_ok ?_
    exact zA.mk (by unfold v_takes; rw [if_neg q, hx, nI_clamp (by omega)]; exact H.all) H.se
def v_dark (σ : zSg) (n t : Nat) (x : Int32) : Int32 := bif rg x 13 then (cS σ n t x.toNatClampNeg (-1)).2.1 else -2
theorem s_dark {X : zXs} {d n t : Nat} {σ : zSg} {τ : Nat → Nat → Int64} {r : Option Nat} {x : Int32} (hd : 7 ≤ d) (hK : CK σ n t) : zC X d 0 0 m_X6_dark [.ref 0, .int x] L0 (mm σ τ r) (zA σ τ r (v_dark σ n t x)) := by
  refine zC.of mk_X6_dark rfl ?_
  refine zT.step ct_X6_dark_ok ?_
  refine zT.step ct_X6_dark_ok ?_
  refine And.intro (by omega) (zF.use s_isHourK ?_)
  refine zT.step ct_X6_dark_ok ?_
  refine And.intro (fun q2 => ?_) (fun q2 => ?_)
  · refine zT.step ct_X6_dark_ok ?_
    refine zT.step ct_X6_dark_ok ?_
    exact zA.mk (by unfold v_dark; rw [fb0 q2]; rfl) SE.rf
  · have hx := fb1 q2
    obtain ⟨h, hh, rfl⟩ := rg_t (by omega) hx
    refine zT.step ct_X6_dark_ok ?_
    refine zT.step ct_X6_dark_ok ?_
    refine And.intro ⟨by decide, _, rfl⟩ ?_
    refine zT.step ct_X6_dark_ok ?_
    refine zT.step ct_X6_dark_ok ?_
    refine And.intro ⟨by omega, by decide, _, rfl⟩ (zC.use (s_lookK (by omega) hK hh) (fun w L2 μ2 hw => ?_))
    obtain ⟨rfl, rfl, σ', rfl, H⟩ := hw
    refine zT.step ct_X6_dark_ok ?_
    refine zT.step ct_X6_dark_ok ?_
    refine And.intro ⟨by decide, _, rfl⟩ ?_
    refine zT.step ct_X6_dark_ok ?_
    refine And.intro ⟨by decide, _, rfl⟩ ?_
    refine zT.step ct_X6_dark_ok ?_
    exact zA.mk (by unfold v_dark; rw [hx, nI_clamp (by omega)]; exact H.2.2.2.2) H.se
