/-! dueBySeed, drawn, commonDivisor, chance; film -/
def cSeed (fz fd : Int32 → Int32) (cl : Nat → Int32) : Nat → Nat → Int32 → Int32 → Int32
  | 0, _, _, acc => acc
  | m + 1, h, z, acc => cSeed fz fd cl m (h + 1) (fz z) (if fd (fz z) = 0 then acc else acc + cl h)
theorem cSeed_0 (fz fd : Int32 → Int32) (cl : Nat → Int32) (h : Nat) (z acc : Int32) : cSeed fz fd cl 0 h z acc = acc := rfl
theorem cSeed_s (fz fd : Int32 → Int32) (cl : Nat → Int32) (m h : Nat) (z acc : Int32) : cSeed fz fd cl (m + 1) h z acc = cSeed fz fd cl m (h + 1) (fz z) (if fd (fz z) = 0 then acc else acc + cl h) := rfl
theorem cSeed_congr {fz fd : Int32 → Int32} {cl cl' : Nat → Int32} : ∀ (m h : Nat) (z acc : Int32), (∀ j, j < h + m → cl j = cl' j) → cSeed fz fd cl m h z acc = cSeed fz fd cl' m h z acc := by
  intro m
  induction m with
  | zero => intro h z acc _; rfl
  | succ m ih =>
    intro h z acc hc
    rw [cSeed_s, cSeed_s, ih (h + 1) _ _ (fun j hj => hc j (by omega)), hc h (by omega)]
/-- fz: the next number of a seed; fd: whether it draws a cloud -/
def z_lcg (fz fd : Int32 → Int32) : Prop := (∀ y : Int32, y * 1103515245 + 12345 = fz y) ∧ ∀ w : Int32, (w.toUInt32 >>> (Int32.toUInt32 9 &&& Int32.toUInt32 31)).toInt32 - (w.toUInt32 >>> (Int32.toUInt32 9 &&& Int32.toUInt32 31)).toInt32 / 3 * 3 = fd w
theorem s_dueBySeed {X : zXs} {d : Nat} {σ : zSg} {τ : Nat → Nat → Int64} {r : Option Nat} {z : Int32} {fz fd : Int32 → Int32} (hz : z_lcg fz fd) : zF X d m_X6_dueBySeed [.ref 0, .int z] L0 (mm σ τ r) (some (.int (cSeed fz fd (σ 41) 13 0 z 0))) (mm σ τ r) := by
  generalize hres : cSeed fz fd (σ 41) 13 0 z 0 = res
  have lp : ∀ (m h : Nat) (y acc : Int32), h + m = 13 → cSeed fz fd (σ 41) m h y acc = res → zT X d m_X6_dueBySeed (fun w L2 μ2 => w = some (.int res) ∧ L2 = L0 ∧ μ2 = mm σ τ r) 0 0 7 [some (.ref 0), some (.int z), some (.int y), some (.int acc), some (.int (nI h))] [] L0 (mm σ τ r) := by
    intro m
    induction m with
    | zero =>
      intro h y acc hh hF
      rw [cSeed_0] at hF
      subst hF
      have hh : h = 13 := by omega
      subst hh
      refine zT.step ct_X6_dueBySeed_ok ?_
      refine zT.step ct_X6_dueBySeed_ok ?_
      refine zT.step ct_X6_dueBySeed_ok ?_
      refine And.intro (fun q => ?_) (fun q => ?_)
      · refine zT.step ct_X6_dueBySeed_ok ?_
        refine zT.step ct_X6_dueBySeed_ok ?_
        exact And.intro rfl (And.intro rfl rfl)
      · exact absurd (show (13 : Int32) ≤ nI 13 by decide) q
    | succ m ih =>
      intro h y acc hh hF
      rw [cSeed_s] at hF
      refine zT.step ct_X6_dueBySeed_ok ?_
      refine zT.step ct_X6_dueBySeed_ok ?_
      refine zT.step ct_X6_dueBySeed_ok ?_
      refine And.intro (fun q => ?_) (fun q => ?_)
      · have := (i_le (x := 13) (a := 13) (y := nI h) rfl rfl (by omega) (by omega)).mp q
        omega
      refine zT.step ct_X6_dueBySeed_ok ?_
      refine zT.step ct_X6_dueBySeed_ok ?_
      refine zT.step ct_X6_dueBySeed_ok ?_
      refine zT.step ct_X6_dueBySeed_ok ?_
      refine zT.step ct_X6_dueBySeed_ok ?_
      refine zT.step ct_X6_dueBySeed_ok ?_
      show zT X d m_X6_dueBySeed _ 0 0 23 [some (.ref 0), some (.int z), some (.int (y * 1103515245 + 12345)), some (.int acc), some (.int (nI h))] [] L0 _
      rw [hz.1 y]
      generalize fz y = w at hF ⊢
      refine zT.step ct_X6_dueBySeed_ok ?_
      refine zT.step ct_X6_dueBySeed_ok ?_
      refine zT.step ct_X6_dueBySeed_ok ?_
      refine zT.step ct_X6_dueBySeed_ok ?_
      refine zT.step ct_X6_dueBySeed_ok ?_
      refine And.intro (by decide) ?_
      refine zT.step ct_X6_dueBySeed_ok ?_
      refine And.intro (fun q => ?_) (fun q => ?_)
      · have q : fd w = 0 := (hz.2 w).symm.trans q
        rw [if_pos q] at hF
        refine zT.step ct_X6_dueBySeed_ok ?_
        refine zT.step ct_X6_dueBySeed_ok ?_
        rw [nI_1]
        exact ih (h + 1) w acc (by omega) hF
      · have q : ¬ fd w = 0 := fun z => q ((hz.2 w).trans z)
        rw [if_neg q] at hF
        refine zT.step ct_X6_dueBySeed_ok ?_
        refine zT.step ct_X6_dueBySeed_ok ?_
        refine zT.step ct_X6_dueBySeed_ok ?_
        refine And.intro ⟨by decide, _, rfl⟩ ?_
        refine zT.step ct_X6_dueBySeed_ok ?_
        refine zT.step ct_X6_dueBySeed_ok ?_
        refine Exists.intro h (And.intro ⟨rfl, by decide, 13, rfl, by omega, by decide⟩ ?_)
        refine zT.step ct_X6_dueBySeed_ok ?_
        refine zT.step ct_X6_dueBySeed_ok ?_
        refine zT.step ct_X6_dueBySeed_ok ?_
        refine zT.step ct_X6_dueBySeed_ok ?_
        rw [nI_1]
        exact ih (h + 1) w (acc + σ 41 h) (by omega) hF
  refine zF.of mk_X6_dueBySeed rfl ?_
  refine zT.step ct_X6_dueBySeed_ok ?_
  refine zT.step ct_X6_dueBySeed_ok ?_
  refine zT.step ct_X6_dueBySeed_ok ?_
  refine zT.step ct_X6_dueBySeed_ok ?_
  refine zT.step ct_X6_dueBySeed_ok ?_
  refine zT.step ct_X6_dueBySeed_ok ?_
  exact lp 13 0 z 0 rfl hres
/-- an answer behind which the clear hours' row may be another -/
def zB (σ : zSg) (τ : Nat → Nat → Int64) (r : Option Nat) (v : Value) : zRQ := fun w L2 μ2 => w = some v ∧ L2 = L0 ∧ ∃ (σ' : zSg) (g : Nat → Int32), μ2 = mm σ' τ r ∧ SE (z_row σ 41 g) σ'
def v_drawn (fz fd : Int32 → Int32) (σ : zSg) (n t : Nat) (z : Int32) : Int32 := cSeed fz fd (cAl (z_up σ 1 6 0) n t) 13 0 z 0
theorem s_drawn {fz fd : Int32 → Int32} (hz : z_lcg fz fd) {X : zXs} {d n t : Nat} {σ : zSg} {τ : Nat → Nat → Int64} {r : Option Nat} {z : Int32} (hd : 7 ≤ d) (hK : CK σ n t) : zC X d 0 0 m_X6_drawn [.ref 0, .int z] L0 (mm σ τ r) (zB σ τ r (.int (v_drawn fz fd σ n t z))) := by
  refine zC.of mk_X6_drawn rfl ?_
  refine zT.step ct_X6_drawn_ok ?_
  refine zT.step ct_X6_drawn_ok ?_
  refine And.intro ⟨by omega, by decide, _, rfl⟩ (zC.use (s_lookWithoutClouds (by omega) hK) (fun w L2 μ2 hw => ?_))
  obtain ⟨rfl, rfl, σ', g, rfl, s1, hg⟩ := hw
  refine zT.step ct_X6_drawn_ok ?_
  refine zT.step ct_X6_drawn_ok ?_
  refine zT.step ct_X6_drawn_ok ?_
  refine And.intro ⟨by omega, by decide, _, rfl⟩ (zF.use (s_dueBySeed hz) ?_)
  refine zT.step ct_X6_drawn_ok ?_
  refine And.intro ?_ (And.intro rfl ⟨σ', g, rfl, s1⟩)
  have e : σ' 41 = g := by rw [s1.1 41 (by decide) (by decide) (by decide) (by decide) (by decide), z_row_s]
  unfold v_drawn
  rw [e, cSeed_congr 13 0 z 0 (fun j hj => hg j (by omega))]
def f_gcd : Nat → Int32 → Int32 → Int32
  | 0, l, _ => l
  | m + 1, l, s => if s ≤ 0 then l else f_gcd m s (l - l / s * s)
theorem s_commonDivisor {X : zXs} {d : Nat} {L : List zSh} {μ : zMem} {a b : Int32} : zF X d m_X6_commonDivisor [.int a, .int b] L μ (some (.int (f_gcd 20 b a))) μ := by
  have lp : ∀ (m i : Nat) (l s : Int32) (o5 : Option Int32), i + m = 20 → f_gcd m l s = f_gcd 20 b a → zT X d m_X6_commonDivisor (fun w L2 μ2 => w = some (.int (f_gcd 20 b a)) ∧ L2 = L ∧ μ2 = μ) 0 0 7 [some (.int a), some (.int b), some (.int l), some (.int s), some (.int (nI i)), none] [] L μ := by
    intro m
    induction m with
    | zero =>
      intro i l s o5 hi hF
      have hF : l = f_gcd 20 b a := hF
      have hi : i = 20 := by omega
      subst hi
      refine zT.step ct_X6_commonDivisor_ok ?_
      refine zT.step ct_X6_commonDivisor_ok ?_
      refine zT.step ct_X6_commonDivisor_ok ?_
      refine And.intro (fun q => ?_) (fun q => ?_)
      · refine zT.step ct_X6_commonDivisor_ok ?_
        refine zT.step ct_X6_commonDivisor_ok ?_
        exact And.intro (by rw [hF]) (And.intro rfl rfl)
      · exact absurd (show (20 : Int32) ≤ nI 20 by decide) q
    | succ m ih =>
      intro i l s o5 hi hF
      refine zT.step ct_X6_commonDivisor_ok ?_
      refine zT.step ct_X6_commonDivisor_ok ?_
      refine zT.step ct_X6_commonDivisor_ok ?_
      refine And.intro (fun q => ?_) (fun q => ?_)
      · have := (i_le (x := 20) (a := 20) (y := nI i) rfl rfl (by omega) (by omega)).mp q
        omega
      refine zT.step ct_X6_commonDivisor_ok ?_
      refine zT.step ct_X6_commonDivisor_ok ?_
      refine And.intro (fun q => ?_) (fun q => ?_)
      · have q : s ≤ 0 := q
        have e : f_gcd (m + 1) l s = l := if_pos q
        rw [e] at hF
        refine zT.step ct_X6_commonDivisor_ok ?_
        refine zT.step ct_X6_commonDivisor_ok ?_
        exact And.intro (by rw [hF]) (And.intro rfl rfl)
      · have q : ¬ s ≤ 0 := q
        have e : f_gcd (m + 1) l s = f_gcd m s (l - l / s * s) := if_neg q
        rw [e] at hF
        refine zT.step ct_X6_commonDivisor_ok ?_
        refine zT.step ct_X6_commonDivisor_ok ?_
        refine zT.step ct_X6_commonDivisor_ok ?_
        refine And.intro (fun z => q (by rw [z]; decide)) ?_
        refine zT.step ct_X6_commonDivisor_ok ?_
        refine zT.step ct_X6_commonDivisor_ok ?_
        refine zT.step ct_X6_commonDivisor_ok ?_
        refine zT.step ct_X6_commonDivisor_ok ?_
        refine zT.step ct_X6_commonDivisor_ok ?_
        refine zT.step ct_X6_commonDivisor_ok ?_
        refine zT.step ct_X6_commonDivisor_ok ?_
        rw [nI_1]
        refine zT.drop 5 ?_
        exact ih (i + 1) s (l - l / s * s) none (by omega) hF
  refine zF.of mk_X6_commonDivisor rfl ?_
  refine zT.step ct_X6_commonDivisor_ok ?_
  refine zT.step ct_X6_commonDivisor_ok ?_
  refine zT.step ct_X6_commonDivisor_ok ?_
  refine zT.step ct_X6_commonDivisor_ok ?_
  refine zT.step ct_X6_commonDivisor_ok ?_
  refine zT.step ct_X6_commonDivisor_ok ?_
  exact lp 20 0 b a none rfl rfl
def cAb (f : Int32 → Int32) (z k : Int32) : Nat → Int32
  | 0 => 0
  | i + 1 => if f (z + nI i) < k then cAb f z k i else cAb f z k i + 1
def v_chance (dr : Int32 → Int32) (x y z p : Int32) : Int64 :=
  if y < 1 ∨ 20 < y ∨ z < 0 ∨ 99999 < z ∨ p < 0 ∨ 1 < p then -4611686018427387904
  else if f_gcd 20 y (cAb dr x z y.toNatClampNeg) < 1 then -4611686018427387904
  else if p = 0 then (cAb dr x z y.toNatClampNeg / f_gcd 20 y (cAb dr x z y.toNatClampNeg)).toInt64 else (y / f_gcd 20 y (cAb dr x z y.toNatClampNeg)).toInt64
theorem s_chance {fz fd : Int32 → Int32} (hz : z_lcg fz fd) {X : zXs} {d n t : Nat} {σ : zSg} {τ : Nat → Nat → Int64} {r : Option Nat} {x y z p : Int32} (hd : 7 ≤ d) (hK : CK σ n t) : zC X d 0 0 m_X6_chance [.ref 0, .int x, .int y, .int z, .int p] L0 (mm σ τ r) (zB σ τ r (.long (v_chance (v_drawn fz fd σ n t) x y z p))) := by
  have s0 : SE (z_row σ 41 (σ 41)) σ := by rw [z_row_id]; exact SE.rf
  have bad : (y < 1 ∨ 20 < y ∨ z < 0 ∨ 99999 < z ∨ p < 0 ∨ 1 < p) → zT X d m_X6_chance (zB σ τ r (.long (v_chance (v_drawn fz fd σ n t) x y z p))) 0 0 32 [some (.ref 0), some (.int x), some (.int y), some (.int z), some (.int p), none, none] [] L0 (mm σ τ r) := by
    intro h
    refine zT.step ct_X6_chance_ok ?_
    refine zT.step ct_X6_chance_ok ?_
    exact And.intro (by unfold v_chance; rw [if_pos h]) (And.intro rfl ⟨σ, σ 41, rfl, s0⟩)
  refine zC.of mk_X6_chance rfl ?_
  refine zT.step ct_X6_chance_ok ?_
  refine zT.step ct_X6_chance_ok ?_
  refine zT.step ct_X6_chance_ok ?_
  refine And.intro (fun q => bad (Or.inl q)) (fun q1 => ?_)
  refine zT.step ct_X6_chance_ok ?_
  refine zT.step ct_X6_chance_ok ?_
  refine zT.step ct_X6_chance_ok ?_
  refine And.intro (fun q => bad (Or.inr (Or.inl q))) (fun q2 => ?_)
  refine zT.step ct_X6_chance_ok ?_
  refine zT.step ct_X6_chance_ok ?_
  refine And.intro (fun q => bad (Or.inr (Or.inr (Or.inl q)))) (fun q3 => ?_)
  refine zT.step ct_X6_chance_ok ?_
  refine zT.step ct_X6_chance_ok ?_
  refine zT.step ct_X6_chance_ok ?_
  refine And.intro (fun q => bad (Or.inr (Or.inr (Or.inr (Or.inl q))))) (fun q4 => ?_)
  refine zT.step ct_X6_chance_ok ?_
  refine zT.step ct_X6_chance_ok ?_
  refine And.intro (fun q => bad (Or.inr (Or.inr (Or.inr (Or.inr (Or.inl q)))))) (fun q5 => ?_)
  refine zT.step ct_X6_chance_ok ?_
  refine zT.step ct_X6_chance_ok ?_
  refine zT.step ct_X6_chance_ok ?_
  refine And.intro (fun q6 => ?_) (fun q => bad (Or.inr (Or.inr (Or.inr (Or.inr (Or.inr (Int32.not_le.mp q)))))))
  have hb : ¬ (y < 1 ∨ 20 < y ∨ z < 0 ∨ 99999 < z ∨ p < 0 ∨ 1 < p) := by
    rintro (h | h | h | h | h | h)
    · exact q1 h
    · exact q2 h
    · exact q3 h
    · exact q4 h
    · exact q5 h
    · exact absurd q6 (Int32.not_le.mpr h)
  obtain ⟨c, hc, rfl⟩ := nI_of2 (x := y) (M := 20) (n := 20) (by decide) (fun w => q1 (Int32.lt_trans w (by decide))) (Int32.not_lt.mp q2)
  have hv : v_chance (v_drawn fz fd σ n t) x (nI c) z p = (if f_gcd 20 (nI c) (cAb (v_drawn fz fd σ n t) x z c) < 1 then -4611686018427387904 else if p = 0 then (cAb (v_drawn fz fd σ n t) x z c / f_gcd 20 (nI c) (cAb (v_drawn fz fd σ n t) x z c)).toInt64 else (nI c / f_gcd 20 (nI c) (cAb (v_drawn fz fd σ n t) x z c)).toInt64) := by
    unfold v_chance
    rw [if_neg hb, nI_clamp (by omega)]
  refine zT.step ct_X6_chance_ok ?_
  refine zT.step ct_X6_chance_ok ?_
  refine And.intro ⟨by omega, by decide, _, rfl⟩ (zC.use (s_lookWithoutClouds (by omega) hK) (fun w L2 μ2 hw => ?_))
  obtain ⟨rfl, rfl, σ', g, rfl, s1, hg⟩ := hw
  have e : ∀ u, cSeed fz fd (σ' 41) 13 0 u 0 = v_drawn fz fd σ n t u := by
    intro u
    have e : σ' 41 = g := by rw [s1.1 41 (by decide) (by decide) (by decide) (by decide) (by decide), z_row_s]
    unfold v_drawn
    rw [e, cSeed_congr 13 0 u 0 (fun j hj => hg j (by omega))]
  have lp : ∀ (m i : Nat), i + m = c → zT X d m_X6_chance (zB σ τ r (.long (v_chance (v_drawn fz fd σ n t) x (nI c) z p))) 0 0 46 [some (.ref 0), some (.int x), some (.int (nI c)), some (.int z), some (.int p), some (.int (cAb (v_drawn fz fd σ n t) x z i)), some (.int (nI i))] [] L0 (mm σ' τ r) := by
    intro m
    induction m with
    | zero =>
      intro i hi
      have hi : i = c := by omega
      subst hi
      refine zT.step ct_X6_chance_ok ?_
      refine zT.step ct_X6_chance_ok ?_
      refine zT.step ct_X6_chance_ok ?_
      refine And.intro (fun q => ?_) (fun q => ?_)
      · refine zT.step ct_X6_chance_ok ?_
        refine zT.step ct_X6_chance_ok ?_
        refine zT.step ct_X6_chance_ok ?_
        refine And.intro (by omega) (zF.use s_commonDivisor ?_)
        refine zT.step ct_X6_chance_ok ?_
        refine zT.step ct_X6_chance_ok ?_
        refine zT.step ct_X6_chance_ok ?_
        refine zT.step ct_X6_chance_ok ?_
        refine And.intro (fun q => ?_) (fun q => ?_)
        · have q : 1 ≤ f_gcd 20 (nI i) (cAb (v_drawn fz fd σ n t) x z i) := q
          have n0 : ¬ f_gcd 20 (nI i) (cAb (v_drawn fz fd σ n t) x z i) = 0 := fun w => absurd q (by rw [w]; decide)
          refine zT.step ct_X6_chance_ok ?_
          refine zT.step ct_X6_chance_ok ?_
          refine And.intro (fun q7 => ?_) (fun q7 => ?_)
          · have q7 : p = 0 := q7
            refine zT.step ct_X6_chance_ok ?_
            refine zT.step ct_X6_chance_ok ?_
            refine zT.step ct_X6_chance_ok ?_
            refine And.intro n0 ?_
            refine zT.step ct_X6_chance_ok ?_
            refine zT.step ct_X6_chance_ok ?_
            refine zT.step ct_X6_chance_ok ?_
            exact And.intro (by rw [hv, if_neg (Int32.not_lt.mpr q), if_pos q7]) (And.intro rfl ⟨σ', g, rfl, s1⟩)
          · have q7 : ¬ p = 0 := q7
            refine zT.step ct_X6_chance_ok ?_
            refine zT.step ct_X6_chance_ok ?_
            refine zT.step ct_X6_chance_ok ?_
            refine And.intro n0 ?_
            refine zT.step ct_X6_chance_ok ?_
            refine zT.step ct_X6_chance_ok ?_
            exact And.intro (by rw [hv, if_neg (Int32.not_lt.mpr q), if_neg q7]) (And.intro rfl ⟨σ', g, rfl, s1⟩)
        · have q : ¬ 1 ≤ f_gcd 20 (nI i) (cAb (v_drawn fz fd σ n t) x z i) := q
          refine zT.step ct_X6_chance_ok ?_
          refine zT.step ct_X6_chance_ok ?_
          exact And.intro (by rw [hv, if_pos (Int32.not_le.mp q)]) (And.intro rfl ⟨σ', g, rfl, s1⟩)
      · exact absurd (show nI i ≤ nI i from Int32.le_refl _) q
    | succ m ih =>
      intro i hi
      refine zT.step ct_X6_chance_ok ?_
      refine zT.step ct_X6_chance_ok ?_
      refine zT.step ct_X6_chance_ok ?_
      refine And.intro (fun q => ?_) (fun q => ?_)
      · have := (i_le (x := nI c) (y := nI i) rfl rfl (by omega) (by omega)).mp q
        omega
      refine zT.step ct_X6_chance_ok ?_
      refine zT.step ct_X6_chance_ok ?_
      refine zT.step ct_X6_chance_ok ?_
      refine zT.step ct_X6_chance_ok ?_
      refine zT.step ct_X6_chance_ok ?_
      refine And.intro ⟨by omega, by decide, _, rfl⟩ (zF.use (s_dueBySeed hz) ?_)
      rw [e]
      have nx := ih (i + 1) (by omega)
      refine zT.step ct_X6_chance_ok ?_
      refine zT.step ct_X6_chance_ok ?_
      refine And.intro (fun q => ?_) (fun q => ?_)
      · have e2 : cAb (v_drawn fz fd σ n t) x z (i + 1) = cAb (v_drawn fz fd σ n t) x z i := if_pos q
        rw [e2] at nx
        refine zT.step ct_X6_chance_ok ?_
        refine zT.step ct_X6_chance_ok ?_
        rw [nI_1]
        exact nx
      · have e2 : cAb (v_drawn fz fd σ n t) x z (i + 1) = cAb (v_drawn fz fd σ n t) x z i + 1 := if_neg q
        rw [e2] at nx
        refine zT.step ct_X6_chance_ok ?_
        refine zT.step ct_X6_chance_ok ?_
        refine zT.step ct_X6_chance_ok ?_
        rw [nI_1]
        exact nx
  refine zT.step ct_X6_chance_ok ?_
  refine zT.step ct_X6_chance_ok ?_
  refine zT.step ct_X6_chance_ok ?_
  refine zT.step ct_X6_chance_ok ?_
  exact lp c 0 (by omega)
