/-! the reference's takesBy, drawn, chance -/
def zI (fz : Int32 → Int32) (z : Int32) : Nat → Int32
  | 0 => z
  | h + 1 => fz (zI fz z h)
/-- the clouds ahead of hour h -/
def rC (fz fd : Int32 → Int32) (z : Int32) : Nat → Int32
  | 0 => 0
  | h + 1 => rC fz fd z h ||| (if fd (zI fz z (h + 1)) = 0 then 1 else 0) <<< (nI h &&& 31)
theorem rC_b {fz fd : Int32 → Int32} {z : Int32} : ∀ (k i : Nat), k ≤ 13 → i < 32 → bt (rC fz fd z k) i = (decide (i < k) && decide (fd (zI fz z (i + 1)) = 0)) := by
  intro k
  induction k with
  | zero => intro i _ _; exact (b_0 i).trans (by rw [decide_eq_false (Nat.not_lt_zero i)]; rfl)
  | succ k ih =>
    intro i hk hi
    have ih := ih i (by omega) hi
    show bt (rC fz fd z k ||| (if fd (zI fz z (k + 1)) = 0 then 1 else 0) <<< (nI k &&& 31)) i = _
    by_cases q : fd (zI fz z (k + 1)) = 0
    · rw [if_pos q, b_or, b_w (by omega) hi, ih]
      by_cases e : i = k
      · subst e
        rw [decide_eq_true (rfl : i = i), Bool.or_true, decide_eq_true (Nat.lt_succ_self i), decide_eq_true q]
        rfl
      · rw [decide_eq_false e, Bool.or_false]
        have : (i < k) = (i < k + 1) := propext (by omega)
        simp only [this]
    · have z0 : bt ((0 : Int32) <<< (nI k &&& 31)) i = false := by rw [b_shl k (by omega) 0 hi, b_0, Bool.and_false]
      rw [if_neg q, b_or, z0, Bool.or_false, ih]
      by_cases e : i = k
      · subst e
        rw [decide_eq_false (Nat.lt_irrefl i), decide_eq_false q, Bool.and_false, Bool.and_false]
      · have : (i < k) = (i < k + 1) := propext (by omega)
        simp only [this]
theorem rC_day {fz fd : Int32 → Int32} {a : zSg} {n t : Nat} {z : Int32} (hC : CE a n) : ∀ (m h : Nat), h + m = 13 → cSeed fz fd (cAl (z_up a 1 6 0) n t) m h (zI fz z h) (cDay (z_up a 1 6 (rC fz fd z 13)) n t h) = cDay (z_up a 1 6 (rC fz fd z 13)) n t 13 := by
  intro m
  induction m with
  | zero =>
    intro h hh
    have hh : h = 13 := by omega
    subst hh
    rfl
  | succ m ih =>
    intro h hh
    rw [cSeed_s]
    have e : (if fd (fz (zI fz z h)) = 0 then cDay (z_up a 1 6 (rC fz fd z 13)) n t h else cDay (z_up a 1 6 (rC fz fd z 13)) n t h + cAl (z_up a 1 6 0) n t h) = cDay (z_up a 1 6 (rC fz fd z 13)) n t (h + 1) := by
      show _ = cDay (z_up a 1 6 (rC fz fd z 13)) n t h + cAl (z_up a 1 6 (rC fz fd z 13)) n t h
      rw [(cl_du (C := rC fz fd z 13) (x := 0) hC (by omega) (by decide)).2, rC_b 13 h (by decide) (by omega), decide_eq_true (show h < 13 by omega), Bool.true_and]
      show (if fd (zI fz z (h + 1)) = 0 then _ else _) = _
      by_cases q : fd (zI fz z (h + 1)) = 0
      · rw [if_pos q, decide_eq_true q]
        exact (Int32.add_zero _).symm
      · rw [if_neg q, decide_eq_false q]
        rfl
    rw [e]
    exact ih (h + 1) (by omega)
theorem rC_drawn {fz fd : Int32 → Int32} {a : zSg} {n t : Nat} {z : Int32} (hC : CE a n) : v_drawn fz fd a n t z = cDay (z_up a 1 6 (rC fz fd z 13)) n t 13 := rC_day hC 13 0 rfl
theorem t_takesBy {fz fd : Int32 → Int32} (hz : z_lcg fz fd) {X : zXs} {d n t m : Nat} {a σ : zSg} {τ : Nat → Nat → Int64} {r : Option Nat} {z : Int32} (hd : 57 ≤ d) (hE : RE a σ n t m) (ha : σ 50 27 = -1) : zC X d 0 0 m_X7_takesBy [.ref 50, .int z] L0 (mm σ τ r) (fun y L2 μ2 => y = some (.int (v_drawn fz fd a n t z)) ∧ L2 = L0 ∧ ∃ σ' τ', μ2 = mm σ' τ' r ∧ SG σ σ') := by
  obtain ⟨Q, hQ⟩ : ∃ Q : zRQ, Q = (fun y L2 μ2 => y = some (.int (v_drawn fz fd a n t z)) ∧ L2 = L0 ∧ ∃ σ' τ', μ2 = mm σ' τ' r ∧ SG σ σ') := ⟨_, rfl⟩
  rw [← hQ]
  have lp : ∀ (m' h : Nat), h + m' = 13 → zT X d m_X7_takesBy Q 0 0 15 [some (.ref 50), some (.int z), some (.int (σ 50 8)), some (.int (zI fz z h)), some (.int (nI h))] [] L0 (mm (z_up σ 50 8 (rC fz fd z h)) τ r) := by
    intro m'
    induction m' with
    | zero =>
      intro h hh
      have hh : h = 13 := by omega
      subst hh
      refine zT.step ct_X7_takesBy_ok ?_
      refine zT.step ct_X7_takesBy_ok ?_
      refine zT.step ct_X7_takesBy_ok ?_
      refine And.intro (fun _ => ?_) (fun q => absurd (by decide) q)
      refine zT.step ct_X7_takesBy_ok ?_
      refine zT.step ct_X7_takesBy_ok ?_
      refine And.intro ⟨by omega, by decide, _, rfl⟩ (zC.use (t_takesDay (by omega) hE.cl (by rw [zu_k _ _ _ _ _ (by decide)]; exact ha)) (fun y L2 μ2 hy => ?_))
      obtain ⟨rfl, rfl, σ2, τ2, rfl, S2⟩ := hy
      have S3 := S2.up8 (k := 8) (v := σ 50 8)
      rw [zu_zu, zu_id] at S3
      refine zT.step ct_X7_takesBy_ok ?_
      refine zT.step ct_X7_takesBy_ok ?_
      refine zT.step ct_X7_takesBy_ok ?_
      refine zT.step ct_X7_takesBy_ok ?_
      refine And.intro ⟨by decide, _, rfl⟩ ?_
      refine zT.step ct_X7_takesBy_ok ?_
      refine zT.step ct_X7_takesBy_ok ?_
      rw [hQ]
      exact And.intro (by rw [rC_drawn hE.ce]) (And.intro rfl ⟨_, τ2, rfl, S3⟩)
    | succ m' ih =>
      intro h hh
      have fin : ∀ v : Int32, v = (if fd (zI fz z (h + 1)) = 0 then 1 else 0) → zT X d m_X7_takesBy Q 0 0 51 [some (.ref 50), some (.int z), some (.int (σ 50 8)), some (.int (zI fz z (h + 1))), some (.int (nI h))] [.int v, .int (z_up σ 50 8 (rC fz fd z h) 50 8), .ref 50] L0 (mm (z_up σ 50 8 (rC fz fd z h)) τ r) := by
        intro v hv
        rw [z_up_s]
        refine zT.step ct_X7_takesBy_ok ?_
        refine zT.step ct_X7_takesBy_ok ?_
        refine zT.step ct_X7_takesBy_ok ?_
        refine zT.step ct_X7_takesBy_ok ?_
        refine And.intro ⟨by decide, _, rfl⟩ ?_
        refine zT.step ct_X7_takesBy_ok ?_
        refine zT.step ct_X7_takesBy_ok ?_
        rw [nI_1]
        show zT X d m_X7_takesBy Q 0 0 15 [some (.ref 50), some (.int z), some (.int (σ 50 8)), some (.int (zI fz z (h + 1))), some (.int (nI (h + 1)))] [] L0 (mm (z_up (z_up σ 50 8 (rC fz fd z h)) 50 8 (rC fz fd z h ||| v <<< (nI h &&& 31))) τ r)
        rw [zu_zu, hv]
        exact ih (h + 1) (by omega)
      refine zT.step ct_X7_takesBy_ok ?_
      refine zT.step ct_X7_takesBy_ok ?_
      refine zT.step ct_X7_takesBy_ok ?_
      refine And.intro (fun q => absurd q (nI_ge (show h < 13 by omega) (by decide))) (fun _ => ?_)
      refine zT.step ct_X7_takesBy_ok ?_
      refine zT.step ct_X7_takesBy_ok ?_
      refine zT.step ct_X7_takesBy_ok ?_
      refine zT.step ct_X7_takesBy_ok ?_
      refine zT.step ct_X7_takesBy_ok ?_
      refine zT.step ct_X7_takesBy_ok ?_
      show zT X d m_X7_takesBy _ 0 0 32 [some (.ref 50), some (.int z), some (.int (σ 50 8)), some (.int (zI fz z h * 1103515245 + 12345)), some (.int (nI h))] [] L0 _
      rw [hz.1]
      show zT X d m_X7_takesBy _ 0 0 32 [some (.ref 50), some (.int z), some (.int (σ 50 8)), some (.int (zI fz z (h + 1))), some (.int (nI h))] [] L0 _
      generalize zI fz z (h + 1) = w at fin ⊢
      refine zT.step ct_X7_takesBy_ok ?_
      refine zT.step ct_X7_takesBy_ok ?_
      refine zT.step ct_X7_takesBy_ok ?_
      refine And.intro ⟨by decide, _, rfl⟩ ?_
      refine zT.step ct_X7_takesBy_ok ?_
      refine zT.step ct_X7_takesBy_ok ?_
      refine zT.step ct_X7_takesBy_ok ?_
      refine zT.step ct_X7_takesBy_ok ?_
      refine zT.step ct_X7_takesBy_ok ?_
      refine And.intro (by decide) ?_
      refine zT.step ct_X7_takesBy_ok ?_
      refine And.intro (fun q => ?_) (fun q => ?_)
      · have q : fd w = 0 := (hz.2 w).symm.trans q
        refine zT.step ct_X7_takesBy_ok ?_
        refine zT.step ct_X7_takesBy_ok ?_
        exact fin 1 (if_pos q).symm
      · have q : ¬ fd w = 0 := fun z => q ((hz.2 w).trans z)
        refine zT.step ct_X7_takesBy_ok ?_
        exact fin 0 (if_neg q).symm
  refine zC.of mk_X7_takesBy rfl ?_
  refine zT.step ct_X7_takesBy_ok ?_
  refine zT.step ct_X7_takesBy_ok ?_
  refine And.intro ⟨by decide, _, rfl⟩ ?_
  refine zT.step ct_X7_takesBy_ok ?_
  refine zT.step ct_X7_takesBy_ok ?_
  refine zT.step ct_X7_takesBy_ok ?_
  refine zT.step ct_X7_takesBy_ok ?_
  refine zT.step ct_X7_takesBy_ok ?_
  refine zT.step ct_X7_takesBy_ok ?_
  refine And.intro ⟨by decide, _, rfl⟩ ?_
  refine zT.step ct_X7_takesBy_ok ?_
  refine zT.step ct_X7_takesBy_ok ?_
  exact lp 13 0 rfl
theorem t_drawn {fz fd : Int32 → Int32} (hz : z_lcg fz fd) {X : zXs} {d n t m : Nat} {a σ : zSg} {τ : Nat → Nat → Int64} {r : Option Nat} {z : Int32} (hd : 58 ≤ d) (hE : RE a σ n t m) (ha : σ 50 27 = -1) : zC X d 0 0 m_X7_drawn [.ref 50, .int z] L0 (mm σ τ r) (tA σ r (v_drawn fz fd a n t z)) := by
  refine zC.of mk_X7_drawn rfl ?_
  refine zT.step ct_X7_drawn_ok ?_
  refine zT.step ct_X7_drawn_ok ?_
  refine zT.step ct_X7_drawn_ok ?_
  refine And.intro ⟨by omega, by decide, _, rfl⟩ (zC.use (t_takesBy hz (by omega) hE ha) (fun y L2 μ2 hy => ?_))
  obtain ⟨rfl, rfl, σ2, τ2, rfl, S2⟩ := hy
  refine zT.step ct_X7_drawn_ok ?_
  exact And.intro rfl (And.intro rfl ⟨σ2, τ2, rfl, S2.sq⟩)
/-! chance -/
def lI (n : Nat) : Int64 := Int64.ofNat n
def gq : Nat → Int64 → Int64 → Option Int64
  | 0, _, _ => none
  | m + 1, x, y => if y = 0 then some x else gq m y (x - x / y * y)
def gOk (n c : Nat) : Bool := match gq 25 (lI c) (lI n) with
  | some g => decide (g ≠ 0) && decide (lI c / g = (nI c / f_gcd 20 (nI n) (nI c)).toInt64) && decide ((nI n).toInt64 / g = (nI n / f_gcd 20 (nI n) (nI c)).toInt64) && decide (¬ f_gcd 20 (nI n) (nI c) < 1)
  | none => false
theorem gOk_all : ∀ n, n < 21 → 1 ≤ n → ∀ c, c < n + 1 → gOk n c = true := by decide +kernel
theorem lI_1 : ∀ c, c < 21 → lI c + 1 = lI (c + 1) ∧ lI c + 0 = lI c ∧ (nI c).toInt64 = lI c := by decide +kernel
def cAn (f : Int32 → Int32) (z k : Int32) : Nat → Nat
  | 0 => 0
  | i + 1 => if f (z + nI i) < k then cAn f z k i else cAn f z k i + 1
theorem cAn_le {f : Int32 → Int32} {z k : Int32} : ∀ i, cAn f z k i ≤ i ∧ cAb f z k i = nI (cAn f z k i) := by
  intro i
  induction i with
  | zero => exact ⟨Nat.le_refl _, rfl⟩
  | succ i ih =>
    show (if _ then _ else _) ≤ i + 1 ∧ (if _ then _ else _) = nI (if _ then _ else _)
    by_cases q : f (z + nI i) < k
    · rw [if_pos q, if_pos q]
      exact ⟨by omega, ih.2⟩
    · rw [if_neg q, if_neg q, ih.2, nI_1]
      exact ⟨by omega, rfl⟩
theorem not_in {x lo hi : Int32} (h : ¬ (lo ≤ x ∧ x ≤ hi)) : x < lo ∨ hi < x := by
  by_cases q : lo ≤ x
  · exact Or.inr (Int32.not_le.mp (fun z => h ⟨q, z⟩))
  · exact Or.inl (Int32.not_le.mp q)
def tL (σ : zSg) (r : Option Nat) (v : Int64) : zRQ := fun w L2 μ2 => w = some (.long v) ∧ L2 = L0 ∧ ∃ σ' τ', μ2 = mm σ' τ' r ∧ SQ σ σ'
theorem lg_cmp0 {x : Int64} : lg_cmp x 0 = 0 ↔ x = 0 := by
  unfold lg_cmp
  by_cases q : x > 0
  · rw [if_pos q]
    exact ⟨fun z => absurd z (by decide), fun z => absurd (z ▸ q) (by decide)⟩
  · rw [if_neg q]
    by_cases q2 : x = 0
    · rw [if_pos q2]
      exact ⟨fun _ => q2, fun _ => rfl⟩
    · rw [if_neg q2]
      exact ⟨fun z => absurd z (by decide), fun z => absurd z q2⟩
theorem t_chance {fz fd : Int32 → Int32} (hz : z_lcg fz fd) {X : zXs} {d n t m : Nat} {a σ : zSg} {τ : Nat → Nat → Int64} {r : Option Nat} {x y z p : Int32} (hd : 58 ≤ d) (hE : RE a σ n t m) (ha : σ 50 27 = -1) : zC X d 0 0 m_X7_chance [.ref 50, .int x, .int y, .int z, .int p] L0 (mm σ τ r) (tL σ r (v_chance (v_drawn fz fd a n t) x y z p)) := by
  obtain ⟨Q, hQ⟩ : ∃ Q : zRQ, Q = tL σ r (v_chance (v_drawn fz fd a n t) x y z p) := ⟨_, rfl⟩
  rw [← hQ]
  have bad : (y < 1 ∨ 20 < y ∨ z < 0 ∨ 99999 < z ∨ p < 0 ∨ 1 < p) → zT X d m_X7_chance Q 0 0 35 [some (.ref 50), some (.int x), some (.int y), some (.int z), some (.int p), none, none, none, none, none, none, none, none] [] L0 (mm σ τ r) := by
    intro h
    rw [hQ]
    refine zT.step ct_X7_chance_ok ?_
    refine zT.step ct_X7_chance_ok ?_
    exact And.intro (by unfold v_chance; rw [if_pos h]) (And.intro rfl ⟨σ, τ, rfl, SQ.rf⟩)
  refine zC.of mk_X7_chance rfl ?_
  refine zT.step ct_X7_chance_ok ?_
  refine zT.step ct_X7_chance_ok ?_
  refine zT.step ct_X7_chance_ok ?_
  refine zT.step ct_X7_chance_ok ?_
  refine zT.step ct_X7_chance_ok ?_
  refine And.intro (by omega) (zF.use (t_inI (a := 1) (b := 20) (by decide) (by decide)) ?_)
  refine zT.step ct_X7_chance_ok ?_
  refine And.intro (fun q => bad ?_) (fun q1 => ?_)
  · rcases not_in (of_decide_eq_false (fb0 q)) with h | h
    · exact Or.inl h
    · exact Or.inr (Or.inl h)
  have q1 := of_decide_eq_true (fb1 q1)
  refine zT.step ct_X7_chance_ok ?_
  refine zT.step ct_X7_chance_ok ?_
  refine zT.step ct_X7_chance_ok ?_
  refine zT.step ct_X7_chance_ok ?_
  refine zT.step ct_X7_chance_ok ?_
  refine And.intro (by omega) (zF.use (t_inI (a := 0) (b := 99999) (by decide) (by decide)) ?_)
  refine zT.step ct_X7_chance_ok ?_
  refine And.intro (fun q => bad ?_) (fun q2 => ?_)
  · rcases not_in (of_decide_eq_false (fb0 q)) with h | h
    · exact Or.inr (Or.inr (Or.inl h))
    · exact Or.inr (Or.inr (Or.inr (Or.inl h)))
  have q2 := of_decide_eq_true (fb1 q2)
  refine zT.step ct_X7_chance_ok ?_
  refine zT.step ct_X7_chance_ok ?_
  refine zT.step ct_X7_chance_ok ?_
  refine zT.step ct_X7_chance_ok ?_
  refine zT.step ct_X7_chance_ok ?_
  refine And.intro (by omega) (zF.use (t_inI (a := 0) (b := 1) (by decide) (by decide)) ?_)
  refine zT.step ct_X7_chance_ok ?_
  refine And.intro (fun q => bad ?_) (fun q3 => ?_)
  · rcases not_in (of_decide_eq_false (fb0 q)) with h | h
    · exact Or.inr (Or.inr (Or.inr (Or.inr (Or.inl h))))
    · exact Or.inr (Or.inr (Or.inr (Or.inr (Or.inr h))))
  have q3 := of_decide_eq_true (fb1 q3)
  have hb : ¬ (y < 1 ∨ 20 < y ∨ z < 0 ∨ 99999 < z ∨ p < 0 ∨ 1 < p) := by
    rintro (h | h | h | h | h | h)
    · exact Int32.not_le.mpr h q1.1
    · exact Int32.not_le.mpr h q1.2
    · exact Int32.not_le.mpr h q2.1
    · exact Int32.not_le.mpr h q2.2
    · exact Int32.not_le.mpr h q3.1
    · exact Int32.not_le.mpr h q3.2
  obtain ⟨c, hc, rfl⟩ := nI_of2 (x := y) (M := 20) (n := 20) (by decide) (fun w => hb (Or.inl (Int32.lt_trans w (by decide)))) q1.2
  have c1 : 1 ≤ c := by
    have := (i_le (x := 1) (y := nI c) (a := 1) (b := c) rfl rfl (by omega) (by omega)).mp q1.1
    exact this
  have hv : v_chance (v_drawn fz fd a n t) x (nI c) z p = (if f_gcd 20 (nI c) (cAb (v_drawn fz fd a n t) x z c) < 1 then -4611686018427387904 else if p = 0 then (cAb (v_drawn fz fd a n t) x z c / f_gcd 20 (nI c) (cAb (v_drawn fz fd a n t) x z c)).toInt64 else (nI c / f_gcd 20 (nI c) (cAb (v_drawn fz fd a n t) x z c)).toInt64) := by
    unfold v_chance
    rw [if_neg hb, nI_clamp (by omega)]
  obtain ⟨f, hf⟩ : ∃ f, f = v_drawn fz fd a n t := ⟨_, rfl⟩
  rw [← hf] at hv hQ
  have tail : ∀ (σ1 : zSg) (τ1 : Nat → Nat → Int64), SG σ σ1 → ∀ (m' : Nat) (u v g : Int64), gq m' u v = some g → gq 25 (lI (cAn f x z c)) (lI c) = some g → zT X d m_X7_chance Q 0 0 87 [some (.ref 50), some (.int x), some (.int (nI c)), some (.int z), some (.int p), some (.long (lI (cAn f x z c))), none, some (.long u), none, some (.long v), none, none, none] [] L0 (mm σ1 τ1 r) := by
    intro σ1 τ1 S m'
    induction m' with
    | zero => intro u v g h; exact absurd h (by intro z; cases z)
    | succ m' ih =>
      intro u v g h hg
      refine zT.step ct_X7_chance_ok ?_
      refine zT.step ct_X7_chance_ok ?_
      refine zT.step ct_X7_chance_ok ?_
      refine zT.step ct_X7_chance_ok ?_
      refine And.intro (fun q => ?_) (fun q => ?_)
      · have q : v = 0 := lg_cmp0.mp q
        have h : some u = some g := by
          have e : gq (m' + 1) u v = some u := if_pos q
          rw [← e]; exact h
        have h : u = g := Option.some.inj h
        subst h
        have ok := gOk_all c (by omega) c1 (cAn f x z c) (by have := (cAn_le (f := f) (z := x) (k := z) c).1; omega)
        unfold gOk at ok
        rw [hg] at ok
        dsimp only at ok
        rw [Bool.and_eq_true, Bool.and_eq_true, Bool.and_eq_true] at ok
        obtain ⟨⟨⟨o1, o2⟩, o3⟩, o4⟩ := ok
        have o1 := of_decide_eq_true o1
        have o2 := of_decide_eq_true o2
        have o3 := of_decide_eq_true o3
        have o4 := of_decide_eq_true o4
        rw [← (cAn_le (f := f) (z := x) (k := z) c).2] at o2 o3 o4
        rw [hv, if_neg o4] at hQ
        refine zT.step ct_X7_chance_ok ?_
        refine zT.step ct_X7_chance_ok ?_
        refine And.intro (fun q7 => ?_) (fun q7 => ?_)
        · have q7 : p = 0 := q7
          rw [if_pos q7] at hQ
          refine zT.step ct_X7_chance_ok ?_
          refine zT.step ct_X7_chance_ok ?_
          refine zT.step ct_X7_chance_ok ?_
          refine And.intro o1 ?_
          refine zT.step ct_X7_chance_ok ?_
          refine zT.step ct_X7_chance_ok ?_
          rw [hQ]
          exact And.intro (congrArg (fun q => some (Value.long q)) o2) (And.intro rfl ⟨σ1, τ1, rfl, S.sq⟩)
        · have q7 : ¬ p = 0 := q7
          rw [if_neg q7] at hQ
          refine zT.step ct_X7_chance_ok ?_
          refine zT.step ct_X7_chance_ok ?_
          refine zT.step ct_X7_chance_ok ?_
          refine zT.step ct_X7_chance_ok ?_
          refine And.intro o1 ?_
          refine zT.step ct_X7_chance_ok ?_
          rw [hQ]
          exact And.intro (congrArg (fun q => some (Value.long q)) o3) (And.intro rfl ⟨σ1, τ1, rfl, S.sq⟩)
      · have q : ¬ v = 0 := fun z => q (lg_cmp0.mpr z)
        have h : gq m' v (u - u / v * v) = some g := by
          have e : gq (m' + 1) u v = gq m' v (u - u / v * v) := if_neg q
          rw [← e]; exact h
        refine zT.step ct_X7_chance_ok ?_
        refine zT.step ct_X7_chance_ok ?_
        refine zT.step ct_X7_chance_ok ?_
        refine And.intro q ?_
        refine zT.step ct_X7_chance_ok ?_
        refine zT.step ct_X7_chance_ok ?_
        refine zT.step ct_X7_chance_ok ?_
        refine zT.step ct_X7_chance_ok ?_
        refine zT.step ct_X7_chance_ok ?_
        refine zT.step ct_X7_chance_ok ?_
        refine zT.drop 11 ?_
        exact ih v (u - u / v * v) g h hg
  have lp : ∀ (m' i : Nat) (σ1 : zSg) (τ1 : Nat → Nat → Int64), i + m' = c → SG σ σ1 → zT X d m_X7_chance Q 0 0 45 [some (.ref 50), some (.int x), some (.int (nI c)), some (.int z), some (.int p), some (.long (lI (cAn f x z i))), none, some (.int (nI i)), none, none, none, none, none] [] L0 (mm σ1 τ1 r) := by
    intro m'
    induction m' with
    | zero =>
      intro i σ1 τ1 hi S
      have hi : i = c := by omega
      subst hi
      refine zT.step ct_X7_chance_ok ?_
      refine zT.step ct_X7_chance_ok ?_
      refine zT.step ct_X7_chance_ok ?_
      refine And.intro (fun _ => ?_) (fun q => absurd (Int32.le_refl (nI i)) q)
      refine zT.step ct_X7_chance_ok ?_
      refine zT.step ct_X7_chance_ok ?_
      refine zT.step ct_X7_chance_ok ?_
      refine zT.step ct_X7_chance_ok ?_
      refine zT.step ct_X7_chance_ok ?_
      show zT X d m_X7_chance Q 0 0 87 [some (.ref 50), some (.int x), some (.int (nI i)), some (.int z), some (.int p), some (.long (lI (cAn f x z i))), none, some (.long (lI (cAn f x z i))), none, some (.long (nI i).toInt64), none, none, none] [] L0 (mm σ1 τ1 r)
      rw [(lI_1 i (by omega)).2.2]
      have ok := gOk_all i (by omega) c1 (cAn f x z i) (by have := (cAn_le (f := f) (z := x) (k := z) i).1; omega)
      unfold gOk at ok
      cases hg : gq 25 (lI (cAn f x z i)) (lI i) with
      | none => rw [hg] at ok; cases ok
      | some g => exact tail σ1 τ1 S 25 _ _ g hg hg
    | succ m' ih =>
      intro i σ1 τ1 hi S
      refine zT.step ct_X7_chance_ok ?_
      refine zT.step ct_X7_chance_ok ?_
      refine zT.step ct_X7_chance_ok ?_
      refine And.intro (fun q => absurd q (nI_ge (show i < c by omega) (by omega))) (fun _ => ?_)
      refine zT.step ct_X7_chance_ok ?_
      refine zT.step ct_X7_chance_ok ?_
      refine zT.step ct_X7_chance_ok ?_
      refine zT.step ct_X7_chance_ok ?_
      refine zT.step ct_X7_chance_ok ?_
      refine zT.step ct_X7_chance_ok ?_
      refine And.intro ⟨by omega, by decide, _, rfl⟩ (zC.use (t_takesBy hz (by omega) (hE.sg S) ((S.2 27 (by omega)).trans ha)) (fun y L2 μ2 hy => ?_))
      obtain ⟨rfl, rfl, σ2, τ2, rfl, S2⟩ := hy
      rw [← hf]
      have nx := ih (i + 1) σ2 τ2 (by omega) (S.trans S2)
      have hci := (cAn_le (f := f) (z := x) (k := z) i).1
      have l1 := lI_1 (cAn f x z i) (by omega)
      refine zT.step ct_X7_chance_ok ?_
      refine zT.step ct_X7_chance_ok ?_
      refine And.intro (fun q => ?_) (fun q => ?_)
      · have e2 : cAn f x z (i + 1) = cAn f x z i := if_pos q
        rw [e2] at nx
        refine zT.step ct_X7_chance_ok ?_
        refine zT.step ct_X7_chance_ok ?_
        refine zT.step ct_X7_chance_ok ?_
        refine zT.step ct_X7_chance_ok ?_
        refine zT.step ct_X7_chance_ok ?_
        rw [nI_1]
        show zT X d m_X7_chance Q 0 0 45 [some (.ref 50), some (.int x), some (.int (nI c)), some (.int z), some (.int p), some (.long (lI (cAn f x z i) + 0)), none, some (.int (nI (i + 1))), none, none, none, none, none] [] L0 _
        rw [l1.2.1]
        exact nx
      · have e2 : cAn f x z (i + 1) = cAn f x z i + 1 := if_neg q
        rw [e2] at nx
        refine zT.step ct_X7_chance_ok ?_
        refine zT.step ct_X7_chance_ok ?_
        refine zT.step ct_X7_chance_ok ?_
        refine zT.step ct_X7_chance_ok ?_
        refine zT.step ct_X7_chance_ok ?_
        refine zT.step ct_X7_chance_ok ?_
        rw [nI_1]
        show zT X d m_X7_chance Q 0 0 45 [some (.ref 50), some (.int x), some (.int (nI c)), some (.int z), some (.int p), some (.long (lI (cAn f x z i) + 1)), none, some (.int (nI (i + 1))), none, none, none, none, none] [] L0 _
        rw [l1.1]
        exact nx
  refine zT.step ct_X7_chance_ok ?_
  refine zT.step ct_X7_chance_ok ?_
  refine zT.step ct_X7_chance_ok ?_
  refine zT.step ct_X7_chance_ok ?_
  exact lp c 0 σ τ (by omega) SG.rf
