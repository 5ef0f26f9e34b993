/-! the reference's firstOther, cloudsBy, takesBy, drawn -/
theorem fo_iff {du tl : Nat → Int32} : ∀ (m h : Nat), h + m < 2 ^ 31 → (cFo du tl m h = -1 ↔ ∀ j, h ≤ j → j < h + m → du j = tl j) := by
  intro m
  induction m with
  | zero => intro h _; exact ⟨fun _ j h1 h2 => by omega, fun _ => rfl⟩
  | succ m ih =>
    intro h hm
    show (if du h = tl h then cFo du tl m (h + 1) else nI h) = -1 ↔ _
    by_cases q : du h = tl h
    · rw [if_pos q, ih (h + 1) (by omega)]
      constructor
      · intro z j h1 h2
        by_cases e : j = h
        · rw [e]; exact q
        · exact z j (by omega) (by omega)
      · intro z j h1 h2
        exact z j (by omega) (by omega)
    · rw [if_neg q]
      constructor
      · intro z
        have := nI_pos' (n := h) (by omega)
        rw [z] at this
        exact absurd this (by decide)
      · intro z
        exact absurd (z h (Nat.le_refl _) (by omega)) q
theorem t_firstOther {X : zXs} {d n t m x s : Nat} {a σ : zSg} {τ : Nat → Nat → Int64} {r : Option Nat} {tl : Nat → Int32} (hd : 56 ≤ d) (hE : RE a σ n t m) (hx : x < n) (hs : s < 4) (htl : ∀ h, h < 13 → σ 63 (40 * s + h) = tl h) (ha : σ 50 27 = -1) : zC X d 0 0 m_X7_firstOther [.ref 50, .int (nI s), .int (nI x)] L0 (mm σ τ r) (fun y L2 μ2 => y = some (.int (cFo (fun h => cDu a n t h x) tl 13 0)) ∧ L2 = L0 ∧ ∃ σ' τ', μ2 = mm σ' τ' r ∧ SG σ σ') := by
  have lp : ∀ (m' h : Nat) (σ1 : zSg) (τ1 : Nat → Nat → Int64), h + m' = 13 → SG σ σ1 → zT X d m_X7_firstOther (fun y L2 μ2 => y = some (.int (cFo (fun h => cDu a n t h x) tl m' h)) ∧ L2 = L0 ∧ ∃ σ' τ', μ2 = mm σ' τ' r ∧ SG σ σ') 0 0 2 [some (.ref 50), some (.int (nI s)), some (.int (nI x)), some (.int (nI h))] [] L0 (mm σ1 τ1 r) := by
    intro m'
    induction m' with
    | zero =>
      intro h σ1 τ1 hh S
      have hh : h = 13 := by omega
      subst hh
      refine zT.step ct_X7_firstOther_ok ?_
      refine zT.step ct_X7_firstOther_ok ?_
      refine zT.step ct_X7_firstOther_ok ?_
      refine And.intro (fun _ => ?_) (fun q => absurd (by decide) q)
      refine zT.step ct_X7_firstOther_ok ?_
      refine zT.step ct_X7_firstOther_ok ?_
      exact And.intro rfl (And.intro rfl ⟨σ1, τ1, rfl, S⟩)
    | succ m' ih =>
      intro h σ1 τ1 hh S
      refine zT.step ct_X7_firstOther_ok ?_
      refine zT.step ct_X7_firstOther_ok ?_
      refine zT.step ct_X7_firstOther_ok ?_
      refine And.intro (fun q => absurd q (nI_ge (show h < 13 by omega) (by decide))) (fun _ => ?_)
      refine zT.step ct_X7_firstOther_ok ?_
      refine zT.step ct_X7_firstOther_ok ?_
      refine zT.step ct_X7_firstOther_ok ?_
      refine zT.step ct_X7_firstOther_ok ?_
      refine And.intro ⟨by omega, by decide, _, rfl⟩ (zC.use (t_dueOf1 (by omega) (hE.sg S) (by omega) hx ((S.2 27 (by omega)).trans ha)) (fun y L2 μ2 hy => ?_))
      obtain ⟨rfl, rfl, σ2, τ2, rfl, S2, -⟩ := hy
      have e63 : σ2 63 (40 * s + h) = tl h := by
        rw [S2.1 63 (by decide) (by decide) (by decide) (by decide), S.1 63 (by decide) (by decide) (by decide) (by decide)]
        exact htl h (by omega)
      refine zT.step ct_X7_firstOther_ok ?_
      refine zT.step ct_X7_firstOther_ok ?_
      refine And.intro ⟨by decide, _, rfl⟩ ?_
      refine zT.step ct_X7_firstOther_ok ?_
      refine zT.step ct_X7_firstOther_ok ?_
      refine zT.step ct_X7_firstOther_ok ?_
      refine zT.step ct_X7_firstOther_ok ?_
      refine zT.step ct_X7_firstOther_ok ?_
      refine zT.step ct_X7_firstOther_ok ?_
      refine Exists.intro (40 * s + h) (And.intro ⟨?_, by decide, 160, rfl, by omega, by decide⟩ ?_)
      · show nI 40 * nI s + nI h = _
        rw [nI_mulN, nI_add]
      show zT X d m_X7_firstOther _ 0 0 25 _ [.int (σ2 63 (40 * s + h)), .int (cDu a n t h x)] _ _
      rw [e63]
      refine zT.step ct_X7_firstOther_ok ?_
      refine And.intro (fun q => ?_) (fun q => ?_)
      · have q : cDu a n t h x = tl h := q
        refine zT.step ct_X7_firstOther_ok ?_
        refine zT.step ct_X7_firstOther_ok ?_
        rw [nI_1]
        have e : cFo (fun h => cDu a n t h x) tl (m' + 1) h = cFo (fun h => cDu a n t h x) tl m' (h + 1) := by
          show (if cDu a n t h x = tl h then _ else _) = _
          rw [if_pos q]
        rw [e]
        exact ih (h + 1) σ2 τ2 (by omega) (S.trans S2)
      · have q : ¬ cDu a n t h x = tl h := q
        refine zT.step ct_X7_firstOther_ok ?_
        refine zT.step ct_X7_firstOther_ok ?_
        refine And.intro ?_ (And.intro rfl ⟨σ2, τ2, rfl, S.trans S2⟩)
        show _ = some (Value.int (if cDu a n t h x = tl h then _ else _))
        rw [if_neg q]
  refine zC.of mk_X7_firstOther rfl ?_
  refine zT.step ct_X7_firstOther_ok ?_
  refine zT.step ct_X7_firstOther_ok ?_
  exact lp 13 0 σ τ rfl SG.rf
/-! clouds -/
theorem RE.cl {a σ : zSg} {n t m : Nat} {v : Int32} (H : RE a σ n t m) : RE (z_up a 1 6 v) (z_up σ 50 8 v) n t m := by
  obtain ⟨⟨h1, h2, h3, h4, h5, h6⟩, ⟨h7, h8⟩, h9, h10, h11⟩ := H
  have e8 : ∀ i, z_up a 1 6 v (8 + i) = a (8 + i) := fun i => zu_n _ _ _ _ _ (by omega)
  refine ⟨⟨h1, by rw [zu_k _ _ _ _ _ (by decide)]; exact h2, h3, h4, by rw [zu_k _ _ _ _ _ (by decide)]; exact h5, by rw [zu_k _ _ _ _ _ (by decide)]; exact h6⟩, ⟨by rw [zu_k _ _ _ _ _ (by decide), zu_k _ _ _ _ _ (by decide)]; exact h7, by rw [z_up_s, z_up_s]⟩, fun i hi => ?_, fun i hi => by rw [e8]; exact h10 i hi, fun t' ht => ((h11 t' ht).mono (zu_n _ _ _ _ _ (by decide)) (zu_n _ _ _ _ _ (by decide))).cls (fun b hb => zu_n _ _ _ _ _ (by omega))⟩
  rw [zu_n _ _ _ _ _ (show (54 : Nat) ≠ 50 by decide), zu_n _ _ _ _ _ (show (55 : Nat) ≠ 50 by decide), e8]
  exact h9 i hi
theorem SG.up8 {σ σ' : zSg} {k : Nat} {v : Int32} (h : SG σ σ') : SG (z_up σ 50 k v) (z_up σ' 50 k v) := by
  refine ⟨fun b b0 b6 b7 b8 => by rw [zu_n _ _ _ _ _ b0, zu_n _ _ _ _ _ b0]; exact h.1 b b0 b6 b7 b8, fun j hj => ?_⟩
  by_cases q : j = k
  · rw [q, z_up_s, z_up_s]
  · rw [zu_k _ _ _ _ _ q, zu_k _ _ _ _ _ q]; exact h.2 j hj
theorem zu_id (σ : zSg) (a k : Nat) : z_up σ a k (σ a k) = σ := by
  funext x y
  unfold z_up
  by_cases h : x = a ∧ y = k
  · rw [if_pos h, h.1, h.2]
  · rw [if_neg h]
theorem dull_b {c : Int32} {h : Nat} (hh : h < 13) : g_dull c h = (decide (h = 6) || bt c h) := by
  unfold g_dull
  congr 1
  cases hb : bt c h with
  | true => exact decide_eq_true ((b_is1 (by omega)).mpr hb)
  | false => exact decide_eq_false (fun q => by rw [(b_is1 (by omega)).mp q] at hb; cases hb)
theorem tv_cl (a : zSg) (v : Int32) (t : Nat) : tvC (z_up a 1 6 v) t = tvC a t := by
  funext q e
  unfold tvC
  rw [zu_n _ _ _ _ _ (by omega), zu_n _ _ _ _ _ (by omega)]
theorem cl_LD {a : zSg} {C : Int32} {t h i : Nat} : cL (z_up a 1 6 C) t h i = g_L C (a (8 + i)) (a 1 5) (tvC a t) h ∧ cD (z_up a 1 6 C) t h i = g_D C (a (8 + i)) (a 1 5) (tvC a t) h := by
  unfold cL cD
  rw [z_up_s, zu_n _ _ _ _ _ (show 8 + i ≠ 1 by omega), zu_k _ _ _ _ _ (show 5 ≠ 6 by decide), tv_cl]
  exact ⟨rfl, rfl⟩
theorem CE.cl {a : zSg} {n : Nat} {C : Int32} (h : CE a n) : CE (z_up a 1 6 C) n := fun i hi => by rw [zu_n _ _ _ _ _ (show 8 + i ≠ 1 by omega)]; exact h i hi
/-- with a cloud nothing is due, else as without any -/
theorem cl_du {a : zSg} {n t h x : Nat} {C : Int32} (hC : CE a n) (hh : h < 13) (hx : x < 8) : cDu (z_up a 1 6 C) n t h x = (bif bt C h then 0 else cDu (z_up a 1 6 0) n t h x) ∧ cAl (z_up a 1 6 C) n t h = (bif bt C h then 0 else cAl (z_up a 1 6 0) n t h) := by
  cases hb : bt C h with
  | true =>
    have hd : g_dull C h = true := by rw [dull_b hh, hb, Bool.or_true]
    have eL : ∀ i, cL (z_up a 1 6 C) t h i = 0 := fun i => by rw [cl_LD.1]; unfold g_L; rw [hd]; rfl
    have eD : ∀ i, cD (z_up a 1 6 C) t h i = 0 := fun i => by rw [cl_LD.2]; unfold g_D; rw [hd]; rfl
    have eS : cS (z_up a 1 6 C) n t h (-1) = (0, 0, 0) := sw0 hC.cl (fun i _ => eL i)
    have e1 : ∀ i, cDu (z_up a 1 6 C) n t h i = 0 := fun i => by
      unfold cDu f_due
      rw [eD]
      split <;> rfl
    refine ⟨e1 x, ?_⟩
    unfold cAl
    rw [f_all_s, eS]
    have : ∀ k, sumN (f_due (0 : Int32) (cD (z_up a 1 6 C) t h)) k = 0 := by
      intro k
      induction k with
      | zero => rfl
      | succ k ih =>
        show sumN _ k + f_due 0 _ k = 0
        rw [ih]
        unfold f_due
        rw [eD]
        split <;> rfl
    exact this n
  | false =>
    have hd : g_dull C h = g_dull 0 h := by rw [dull_b hh, dull_b hh, hb, b_0]
    have eL : cL (z_up a 1 6 C) t h = cL (z_up a 1 6 0) t h := by funext i; rw [cl_LD.1, cl_LD.1]; unfold g_L; rw [hd]
    have eD : cD (z_up a 1 6 C) t h = cD (z_up a 1 6 0) t h := by funext i; rw [cl_LD.2, cl_LD.2]; unfold g_D; rw [hd]
    have e8 : (fun i => z_up a 1 6 C (8 + i)) = (fun i => z_up a 1 6 0 (8 + i)) := by funext i; rw [zu_n _ _ _ _ _ (by omega), zu_n _ _ _ _ _ (by omega)]
    have eS : cS (z_up a 1 6 C) n t h (-1) = cS (z_up a 1 6 0) n t h (-1) := by unfold cS; rw [eL, e8]
    constructor
    · show cDu _ n t h x = cDu _ n t h x
      unfold cDu
      rw [eS, eD]
    · show cAl _ n t h = cAl _ n t h
      unfold cAl
      rw [eS, eD]
/-! the class's count of clouds is the reference's -/
theorem mc_b {du tl : Nat → Int32} : ∀ (k i : Nat), k ≤ 13 → i < 32 → bt (cMc du tl k) i = (decide (i < k) && decide (du i ≠ tl i)) := by
  intro k
  induction k with
  | zero => intro i _ _; exact (b_0 i).trans (by rw [decide_eq_false (Nat.not_lt_zero i)]; rfl)
  | succ k ih =>
    intro i hk hi
    have ih := ih i (by omega) hi
    show bt (if du k = tl k then cMc du tl k else cMc du tl k ||| 1 <<< (nI k &&& 31)) i = _
    by_cases q : du k = tl k
    · rw [if_pos q, ih]
      by_cases e : i = k
      · subst e
        rw [decide_eq_false (Nat.lt_irrefl i), decide_eq_false (show ¬ du i ≠ tl i from fun z => z q), Bool.and_false, Bool.and_false]
      · have : (i < k) = (i < k + 1) := propext (by omega)
        simp only [this]
    · rw [if_neg q, b_or, b_w (by omega) hi, ih]
      by_cases e : i = k
      · subst e
        rw [decide_eq_true (rfl : i = i), Bool.or_true, decide_eq_true (Nat.lt_succ_self i), decide_eq_true (show du i ≠ tl i from q)]
        rfl
      · rw [decide_eq_false e, Bool.or_false]
        have : (i < k) = (i < k + 1) := propext (by omega)
        simp only [this]
theorem ml_b {tl : Nat → Int32} : ∀ (k i : Nat), k ≤ 13 → i < 32 → bt (cMl tl k) i = (decide (i < k) && decide (tl i ≠ 0)) := by
  intro k
  induction k with
  | zero => intro i _ _; exact (b_0 i).trans (by rw [decide_eq_false (Nat.not_lt_zero i)]; rfl)
  | succ k ih =>
    intro i hk hi
    have ih := ih i (by omega) hi
    show bt (if tl k = 0 then cMl tl k else cMl tl k ||| 1 <<< (nI k &&& 31)) i = _
    by_cases q : tl k = 0
    · rw [if_pos q, ih]
      by_cases e : i = k
      · subst e
        rw [decide_eq_false (Nat.lt_irrefl i), decide_eq_false (show ¬ tl i ≠ 0 from fun z => z q), Bool.and_false, Bool.and_false]
      · have : (i < k) = (i < k + 1) := propext (by omega)
        simp only [this]
    · rw [if_neg q, b_or, b_w (by omega) hi, ih]
      by_cases e : i = k
      · subst e
        rw [decide_eq_true (rfl : i = i), Bool.or_true, decide_eq_true (Nat.lt_succ_self i), decide_eq_true (show tl i ≠ 0 from q)]
        rfl
      · rw [decide_eq_false e, Bool.or_false]
        have : (i < k) = (i < k + 1) := propext (by omega)
        simp only [this]
theorem b_zero {x : Int32} : x = 0 ↔ ∀ i, i < 32 → bt x i = false := ⟨fun h i _ => by rw [h, b_0], fun h => b_ext (fun i hi => by rw [h i hi, b_0])⟩
/-- all hours are as told under the clouds C: what the class tests, what the reference tests -/
theorem cl_test {a : zSg} {n t x : Nat} {C : Int32} {tl : Nat → Int32} (hC : CE a n) (hx : x < 8) : (cFo (fun h => cDu (z_up a 1 6 C) n t h x) tl 13 0 = -1) ↔ (cMc (fun h => cDu (z_up a 1 6 0) n t h x) tl 13 &&& (C ^^^ -1) = 0 ∧ cMl tl 13 &&& C = 0) := by
  rw [fo_iff 13 0 (by decide), b_zero, b_zero]
  constructor
  · intro h
    refine ⟨fun i hi => ?_, fun i hi => ?_⟩
    · rw [b_and, mc_b 13 i (by decide) hi, b_xor, b_m1 i hi, Bool.xor_true]
      by_cases q : i < 13
      · have e := h i (Nat.zero_le _) (by omega)
        rw [(cl_du hC q hx).1] at e
        cases hb : bt C i with
        | true => rw [Bool.not_true, Bool.and_false]
        | false =>
          rw [hb] at e
          have e : cDu (z_up a 1 6 0) n t i x = tl i := e
          rw [decide_eq_false (show ¬ cDu (z_up a 1 6 0) n t i x ≠ tl i from fun z => z e), Bool.and_false, Bool.false_and]
      · rw [decide_eq_false q, Bool.false_and, Bool.false_and]
    · rw [b_and, ml_b 13 i (by decide) hi]
      by_cases q : i < 13
      · have e := h i (Nat.zero_le _) (by omega)
        rw [(cl_du hC q hx).1] at e
        cases hb : bt C i with
        | false => rw [Bool.and_false]
        | true =>
          rw [hb] at e
          have e : 0 = tl i := e
          rw [decide_eq_false (show ¬ tl i ≠ 0 from fun z => z e.symm), Bool.and_false, Bool.false_and]
      · rw [decide_eq_false q, Bool.false_and, Bool.false_and]
  · rintro ⟨h1, h2⟩ i _ hi
    have hi : i < 13 := by omega
    rw [(cl_du hC hi hx).1]
    have h1 := h1 i (by omega)
    have h2 := h2 i (by omega)
    rw [b_and, mc_b 13 i (by decide) (by omega), b_xor, b_m1 i (by omega), Bool.xor_true, decide_eq_true hi, Bool.true_and] at h1
    rw [b_and, ml_b 13 i (by decide) (by omega), decide_eq_true hi, Bool.true_and] at h2
    cases hb : bt C i with
    | true =>
      rw [hb, Bool.and_true] at h2
      have := of_decide_eq_false h2
      show 0 = tl i
      exact (Decidable.not_not.mp this).symm
    | false =>
      rw [hb, Bool.not_false, Bool.and_true] at h1
      have := of_decide_eq_false h1
      show cDu (z_up a 1 6 0) n t i x = tl i
      exact Decidable.not_not.mp this
/-- one more where the test holds -/
def p1 (q : Prop) [Decidable q] (c : Int32) : Int32 := if q then c + 1 else c
theorem cPi_add (mc ml : Int32) (a : Nat) : ∀ (m b : Nat) (c : Int32), cPi mc ml a m b c = c + cPi mc ml a m b 0 := by
  intro m
  induction m with
  | zero => intro b c; exact (Int32.add_zero c).symm
  | succ m ih =>
    intro b c
    show cPi mc ml a m (b + 1) _ = c + cPi mc ml a m (b + 1) _
    by_cases q1 : mc &&& ((1 <<< (nI a &&& 31) ||| 1 <<< (nI b &&& 31)) ^^^ -1) = 0
    · by_cases q2 : ml &&& (1 <<< (nI a &&& 31) ||| 1 <<< (nI b &&& 31)) = 0
      · rw [if_pos q1, if_pos q1, if_pos q2, if_pos q2, ih (b + 1) (c + 1), ih (b + 1) (0 + 1), Int32.zero_add, Int32.add_assoc]
      · rw [if_pos q1, if_pos q1, if_neg q2, if_neg q2]
        exact ih (b + 1) c
    · rw [if_neg q1, if_neg q1]
      exact ih (b + 1) c
theorem cPo_add (mc ml : Int32) : ∀ (m a : Nat) (c : Int32), cPo mc ml m a c = c + cPo mc ml m a 0 := by
  intro m
  induction m with
  | zero => intro a c; exact (Int32.add_zero c).symm
  | succ m ih =>
    intro a c
    show cPo mc ml m (a + 1) (cPi mc ml a (13 - a) a c) = c + cPo mc ml m (a + 1) (cPi mc ml a (13 - a) a 0)
    rw [ih, ih (a + 1) (cPi mc ml a (13 - a) a 0), cPi_add, Int32.add_assoc]
theorem cPi_s {mc ml : Int32} {a m b : Nat} {c : Int32} : cPi mc ml a (m + 1) b c = cPi mc ml a m (b + 1) (if mc &&& ((1 <<< (nI a &&& 31) ||| 1 <<< (nI b &&& 31)) ^^^ -1) = 0 then (if ml &&& (1 <<< (nI a &&& 31) ||| 1 <<< (nI b &&& 31)) = 0 then c + 1 else c) else c) := rfl
theorem t_cloudsBy {X : zXs} {d n t m x s : Nat} {a σ : zSg} {τ : Nat → Nat → Int64} {r : Option Nat} {tl : Nat → Int32} (hd : 57 ≤ d) (hE : RE a σ n t m) (hx : x < n) (hs : s < 4) (htl : ∀ h, h < 13 → σ 63 (40 * s + h) = tl h) (ha : σ 50 27 = -1) : zC X d 0 0 m_X7_cloudsBy [.ref 50, .int (nI s), .int (nI x)] L0 (mm σ τ r) (fun y L2 μ2 => y = some (.int (cPo (cMc (fun h => cDu (z_up a 1 6 0) n t h x) tl 13) (cMl tl 13) 13 0 (if cMc (fun h => cDu (z_up a 1 6 0) n t h x) tl 13 = 0 then 1 else 0))) ∧ L2 = L0 ∧ ∃ σ' τ', μ2 = mm σ' τ' r ∧ SG σ σ') := by
  have hC := hE.ce
  have hx8 : x < 8 := by have := hE.1.1; omega
  have test := fun C => cl_test (a := a) (n := n) (t := t) (x := x) (C := C) (tl := tl) hC hx8
  obtain ⟨mc, hmc⟩ : ∃ mc, mc = cMc (fun h => cDu (z_up a 1 6 0) n t h x) tl 13 := ⟨_, rfl⟩
  obtain ⟨ml, hml⟩ : ∃ ml, ml = cMl tl 13 := ⟨_, rfl⟩
  rw [← hmc, ← hml] at test
  rw [← hmc, ← hml]
  obtain ⟨Q, hQ⟩ : ∃ Q : zRQ, Q = (fun y L2 μ2 => y = some (.int (cPo mc ml 13 0 (if mc = 0 then 1 else 0))) ∧ L2 = L0 ∧ ∃ σ' τ', μ2 = mm σ' τ' r ∧ SG σ σ') := ⟨_, rfl⟩
  rw [← hQ]
  have fo : ∀ (σ1 : zSg) (τ1 : Nat → Nat → Int64) (C : Int32), SG (z_up σ 50 8 C) σ1 → zC X (d - 1) 0 0 m_X7_firstOther [.ref 50, .int (nI s), .int (nI x)] L0 (mm σ1 τ1 r) (fun y L2 μ2 => y = some (.int (cFo (fun h => cDu (z_up a 1 6 C) n t h x) tl 13 0)) ∧ L2 = L0 ∧ ∃ σ' τ', μ2 = mm σ' τ' r ∧ SG (z_up σ 50 8 C) σ') := by
    intro σ1 τ1 C S
    refine zC.wk (t_firstOther (tl := tl) (by omega) (hE.cl.sg S) hx hs (fun h hh => ?_) ?_) (fun w L2 μ2 hw => ?_)
    · rw [S.1 63 (by decide) (by decide) (by decide) (by decide), zu_n _ _ _ _ _ (by decide)]; exact htl h hh
    · rw [S.2 27 (by omega), zu_k _ _ _ _ _ (by decide)]; exact ha
    · obtain ⟨h1, h2, σ', τ', h3, h4⟩ := hw
      exact ⟨h1, h2, σ', τ', h3, S.trans h4⟩
  -- the last: no clouds at all
  have last : ∀ (σ1 : zSg) (τ1 : Nat → Nat → Int64) (C : Int32), SG (z_up σ 50 8 C) σ1 → zT X d m_X7_cloudsBy Q 0 0 74 [some (.ref 50), some (.int (nI s)), some (.int (nI x)), some (.int (σ 50 8)), some (.int (cPo mc ml 13 0 0)), none, none] [] L0 (mm σ1 τ1 r) := by
    intro σ1 τ1 C S
    have S2 := S.up8 (k := 8) (v := 0)
    rw [zu_zu] at S2
    have fin : ∀ (σ2 : zSg) (τ2 : Nat → Nat → Int64) (v : Int32), SG (z_up σ 50 8 0) σ2 → v = (if mc = 0 then 1 else 0) → zT X d m_X7_cloudsBy Q 0 0 96 [some (.ref 50), some (.int (nI s)), some (.int (nI x)), some (.int (σ 50 8)), some (.int (cPo mc ml 13 0 0)), none, none] [.int v, .int (cPo mc ml 13 0 0)] L0 (mm σ2 τ2 r) := by
      intro σ2 τ2 v S3 hv
      have S4 := S3.up8 (k := 8) (v := σ 50 8)
      rw [zu_zu, zu_id] at S4
      refine zT.step ct_X7_cloudsBy_ok ?_
      refine zT.step ct_X7_cloudsBy_ok ?_
      refine zT.step ct_X7_cloudsBy_ok ?_
      refine zT.step ct_X7_cloudsBy_ok ?_
      refine zT.step ct_X7_cloudsBy_ok ?_
      refine And.intro ⟨by decide, _, rfl⟩ ?_
      refine zT.step ct_X7_cloudsBy_ok ?_
      refine zT.step ct_X7_cloudsBy_ok ?_
      rw [hQ]
      refine And.intro ?_ (And.intro rfl ⟨_, τ2, rfl, S4⟩)
      rw [cPo_add mc ml 13 0 (if mc = 0 then 1 else 0), ← hv, Int32.add_comm]
    refine zT.step ct_X7_cloudsBy_ok ?_
    refine zT.step ct_X7_cloudsBy_ok ?_
    refine zT.step ct_X7_cloudsBy_ok ?_
    refine And.intro ⟨by decide, _, rfl⟩ ?_
    refine zT.step ct_X7_cloudsBy_ok ?_
    refine zT.step ct_X7_cloudsBy_ok ?_
    refine zT.step ct_X7_cloudsBy_ok ?_
    refine zT.step ct_X7_cloudsBy_ok ?_
    refine zT.step ct_X7_cloudsBy_ok ?_
    refine And.intro ⟨by omega, by decide, _, rfl⟩ (zC.use (fo _ τ1 0 S2) (fun y L2 μ2 hy => ?_))
    obtain ⟨rfl, rfl, σ2, τ2, rfl, S3⟩ := hy
    have e0 : (mc &&& ((0 : Int32) ^^^ -1) = 0 ∧ ml &&& (0 : Int32) = 0) ↔ mc = 0 := by
      rw [Int32.zero_xor, Int32.and_zero]
      have : mc &&& -1 = mc := b_ext fun i hi => by rw [b_and, b_m1 i hi, Bool.and_true]
      rw [this]
      exact ⟨fun z => z.1, fun z => ⟨z, rfl⟩⟩
    refine zT.step ct_X7_cloudsBy_ok ?_
    refine zT.step ct_X7_cloudsBy_ok ?_
    refine And.intro (fun q => ?_) (fun q => ?_)
    · have q := e0.mp ((test 0).mp q)
      refine zT.step ct_X7_cloudsBy_ok ?_
      refine zT.step ct_X7_cloudsBy_ok ?_
      exact fin σ2 τ2 1 S3 (by rw [if_pos q])
    · have q : ¬ mc = 0 := fun z => q ((test 0).mpr (e0.mpr z))
      refine zT.step ct_X7_cloudsBy_ok ?_
      exact fin σ2 τ2 0 S3 (by rw [if_neg q])
  have inner : ∀ (p : Nat), p < 13 → ∀ (m' b : Nat) (c : Int32) (C : Int32) (σ1 : zSg) (τ1 : Nat → Nat → Int64), b + m' = 13 → SG (z_up σ 50 8 C) σ1 → (∀ (σ2 : zSg) (τ2 : Nat → Nat → Int64) (C2 : Int32), SG (z_up σ 50 8 C2) σ2 → zT X d m_X7_cloudsBy Q 0 0 68 [some (.ref 50), some (.int (nI s)), some (.int (nI x)), some (.int (σ 50 8)), some (.int (cPi mc ml p m' b c)), some (.int (nI p)), none] [] L0 (mm σ2 τ2 r)) → zT X d m_X7_cloudsBy Q 0 0 22 [some (.ref 50), some (.int (nI s)), some (.int (nI x)), some (.int (σ 50 8)), some (.int c), some (.int (nI p)), some (.int (nI b))] [] L0 (mm σ1 τ1 r) := by
    intro p hp m'
    induction m' with
    | zero =>
      intro b c C σ1 τ1 hb S K
      have hb : b = 13 := by omega
      subst hb
      refine zT.step ct_X7_cloudsBy_ok ?_
      refine zT.step ct_X7_cloudsBy_ok ?_
      refine zT.step ct_X7_cloudsBy_ok ?_
      refine And.intro (fun _ => ?_) (fun q => absurd (by decide) q)
      refine zT.drop 6 ?_
      exact K σ1 τ1 C S
    | succ m' ih =>
      intro b c C σ1 τ1 hb S K
      obtain ⟨D, hD⟩ : ∃ D : Int32, D = 1 <<< (nI p &&& 31) ||| 1 <<< (nI b &&& 31) := ⟨_, rfl⟩
      have S2 := S.up8 (k := 8) (v := D)
      rw [zu_zu] at S2
      have next : ∀ (σ2 : zSg) (τ2 : Nat → Nat → Int64) (v : Int32), SG (z_up σ 50 8 D) σ2 → c + v = (if mc &&& (D ^^^ -1) = 0 then (if ml &&& D = 0 then c + 1 else c) else c) → zT X d m_X7_cloudsBy Q 0 0 59 [some (.ref 50), some (.int (nI s)), some (.int (nI x)), some (.int (σ 50 8)), some (.int c), some (.int (nI p)), some (.int (nI b))] [.int v, .int c] L0 (mm σ2 τ2 r) := by
        intro σ2 τ2 v S3 hv
        refine zT.step ct_X7_cloudsBy_ok ?_
        refine zT.step ct_X7_cloudsBy_ok ?_
        refine zT.step ct_X7_cloudsBy_ok ?_
        refine zT.step ct_X7_cloudsBy_ok ?_
        show zT X d m_X7_cloudsBy Q 0 0 22 [some (.ref 50), some (.int (nI s)), some (.int (nI x)), some (.int (σ 50 8)), some (.int (c + v)), some (.int (nI p)), some (.int (nI b + 1))] [] L0 _
        rw [nI_1]
        refine ih (b + 1) (c + v) D σ2 τ2 (by omega) S3 (fun σ3 τ3 C3 S5 => ?_)
        have := K σ3 τ3 C3 S5
        rw [cPi_s, ← hD, ← hv] at this
        exact this
      refine zT.step ct_X7_cloudsBy_ok ?_
      refine zT.step ct_X7_cloudsBy_ok ?_
      refine zT.step ct_X7_cloudsBy_ok ?_
      refine And.intro (fun q => absurd q (nI_ge (show b < 13 by omega) (by decide))) (fun _ => ?_)
      refine zT.step ct_X7_cloudsBy_ok ?_
      refine zT.step ct_X7_cloudsBy_ok ?_
      refine zT.step ct_X7_cloudsBy_ok ?_
      refine zT.step ct_X7_cloudsBy_ok ?_
      refine zT.step ct_X7_cloudsBy_ok ?_
      refine zT.step ct_X7_cloudsBy_ok ?_
      refine zT.step ct_X7_cloudsBy_ok ?_
      refine zT.step ct_X7_cloudsBy_ok ?_
      refine zT.step ct_X7_cloudsBy_ok ?_
      refine And.intro ⟨by decide, _, rfl⟩ ?_
      refine zT.step ct_X7_cloudsBy_ok ?_
      refine zT.step ct_X7_cloudsBy_ok ?_
      refine zT.step ct_X7_cloudsBy_ok ?_
      refine zT.step ct_X7_cloudsBy_ok ?_
      refine zT.step ct_X7_cloudsBy_ok ?_
      have f1 := fo _ τ1 D S2
      rw [hD] at f1
      refine And.intro ⟨by omega, by decide, _, rfl⟩ (zC.use f1 (fun y L2 μ2 hy => ?_))
      rw [← hD] at hy
      obtain ⟨rfl, rfl, σ2, τ2, rfl, S3⟩ := hy
      refine zT.step ct_X7_cloudsBy_ok ?_
      refine zT.step ct_X7_cloudsBy_ok ?_
      refine And.intro (fun q => ?_) (fun q => ?_)
      · obtain ⟨q1, q2⟩ := (test D).mp q
        refine zT.step ct_X7_cloudsBy_ok ?_
        refine zT.step ct_X7_cloudsBy_ok ?_
        exact next σ2 τ2 1 S3 (by rw [if_pos q1, if_pos q2])
      · have q := fun z => q ((test D).mpr z)
        refine zT.step ct_X7_cloudsBy_ok ?_
        refine next σ2 τ2 0 S3 ?_
        rw [Int32.add_zero]
        by_cases q1 : mc &&& (D ^^^ -1) = 0
        · rw [if_pos q1, if_neg (fun q2 => q ⟨q1, q2⟩)]
        · rw [if_neg q1]
  have outer : ∀ (m' p : Nat) (c : Int32) (C : Int32) (σ1 : zSg) (τ1 : Nat → Nat → Int64), p + m' = 13 → SG (z_up σ 50 8 C) σ1 → cPo mc ml m' p c = cPo mc ml 13 0 0 → zT X d m_X7_cloudsBy Q 0 0 11 [some (.ref 50), some (.int (nI s)), some (.int (nI x)), some (.int (σ 50 8)), some (.int c), some (.int (nI p)), none] [] L0 (mm σ1 τ1 r) := by
    intro m'
    induction m' with
    | zero =>
      intro p c C σ1 τ1 hp S hc
      have hp : p = 13 := by omega
      subst hp
      have hc : c = cPo mc ml 13 0 0 := hc
      refine zT.step ct_X7_cloudsBy_ok ?_
      refine zT.step ct_X7_cloudsBy_ok ?_
      refine zT.step ct_X7_cloudsBy_ok ?_
      refine And.intro (fun _ => ?_) (fun q => absurd (by decide) q)
      rw [hc]
      refine zT.drop 5 ?_
      exact last σ1 τ1 C S
    | succ m' ih =>
      intro p c C σ1 τ1 hp S hc
      refine zT.step ct_X7_cloudsBy_ok ?_
      refine zT.step ct_X7_cloudsBy_ok ?_
      refine zT.step ct_X7_cloudsBy_ok ?_
      refine And.intro (fun q => absurd q (nI_ge (show p < 13 by omega) (by decide))) (fun _ => ?_)
      refine zT.step ct_X7_cloudsBy_ok ?_
      refine zT.step ct_X7_cloudsBy_ok ?_
      refine inner p (by omega) (13 - p) p c C σ1 τ1 (by omega) S (fun σ2 τ2 C2 S2 => ?_)
      refine zT.step ct_X7_cloudsBy_ok ?_
      refine zT.step ct_X7_cloudsBy_ok ?_
      rw [nI_1]
      exact ih (p + 1) _ C2 σ2 τ2 (by omega) S2 hc
  refine zC.of mk_X7_cloudsBy rfl ?_
  refine zT.step ct_X7_cloudsBy_ok ?_
  refine zT.step ct_X7_cloudsBy_ok ?_
  refine And.intro ⟨by decide, _, rfl⟩ ?_
  refine zT.step ct_X7_cloudsBy_ok ?_
  refine zT.step ct_X7_cloudsBy_ok ?_
  refine zT.step ct_X7_cloudsBy_ok ?_
  refine zT.step ct_X7_cloudsBy_ok ?_
  refine zT.step ct_X7_cloudsBy_ok ?_
  exact outer 13 0 0 (σ 50 8) σ τ rfl (by rw [zu_id]; exact SG.rf) rfl
