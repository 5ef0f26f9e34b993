/-! fittingTexts, fittingClouds -/
theorem SE.sq {a b : zSg} (h : SE a b) (k : Nat) (v : Int32) : SE (z_up a 1 k v) (z_up b 1 k v) := by
  refine ⟨fun x x1 x4 x5 x6 x7 => ?_, fun y y9 y10 => ?_⟩
  · rw [zu_n _ _ _ _ _ x1, zu_n _ _ _ _ _ x1]
    exact h.1 x x1 x4 x5 x6 x7
  · unfold z_up
    by_cases hy : y = k
    · simp [hy]
    · simp [hy, h.2 y y9 y10]
theorem sq_sq (σ : zSg) (k : Nat) (v w : Int32) : z_up (z_up σ 1 k v) 1 k w = z_up σ 1 k w := by
  funext x y
  unfold z_up
  by_cases h : x = 1 ∧ y = k <;> simp [h]
theorem sq_id (σ : zSg) (k : Nat) : z_up σ 1 k (σ 1 k) = σ := by
  funext x y
  unfold z_up
  by_cases h : x = 1 ∧ y = k
  · rw [if_pos h, h.1, h.2]
  · rw [if_neg h]
theorem sq_k (σ : zSg) (k : Nat) (v : Int32) (y : Nat) (h : y ≠ k) : z_up σ 1 k v 1 y = σ 1 y := z_up_n _ _ _ _ _ _ (fun z => h z.2)
theorem CK.cl {σ : zSg} {n t : Nat} {v : Int32} (h : CK σ n t) : CK (z_up σ 1 6 v) n t :=
  ⟨h.1, by rw [sq_k _ _ _ _ (by decide)]; exact h.2.1, h.2.2.1, by rw [sq_k _ _ _ _ (by decide)]; exact h.2.2.2.1, fun q hq => by rw [zu_n _ _ _ _ _ (by omega)]; exact h.2.2.2.2.1 q hq, by rw [sq_k _ _ _ _ (by decide)]; exact h.2.2.2.2.2⟩
theorem CK.ru {σ : zSg} {n t t' : Nat} (h : CK σ n t) (ht : t' < 6) (hW : RW σ t') : CK (z_up σ 1 4 (nI t')) n t' :=
  ⟨h.1, by rw [sq_k _ _ _ _ (by decide)]; exact h.2.1, ht, by rw [z_up_s], fun q hq => by rw [zu_n _ _ _ _ _ (by omega)]; exact hW q hq, by rw [sq_k _ _ _ _ (by decide)]; exact h.2.2.2.2.2⟩
theorem z_sh13.sq {σ : zSg} {s k : Nat} {v : Int32} (h : z_sh13 σ s) : z_sh13 (z_up σ 1 k v) s ∧ z_up σ 1 k v (43 + 2 * s) = σ (43 + 2 * s) := by
  refine ⟨⟨h.1, ?_⟩, zu_n _ _ _ _ _ (by omega)⟩
  rw [zu_n _ _ _ _ _ (by omega)]
  exact h.2
def cSo (du tl : Nat → Int32) : Nat → Nat → Bool
  | 0, _ => true
  | m + 1, h => if du h = tl h then cSo du tl m (h + 1) else false
def cTx (f : Nat → Bool) : Nat → Int32
  | 0 => 0
  | t + 1 => bif f t then cTx f t ||| 1 <<< (nI t &&& 31) else cTx f t
theorem s_fittingTexts {X : zXs} {d n t s i m : Nat} {σ : zSg} {τ : Nat → Nat → Int64} {r : Option Nat} (hd : 6 ≤ d) (hK : CK σ n t) (hi : i < n) (hs : z_sh13 σ s) (hm : σ 1 3 = nI m) (hm6 : m ≤ 6) (hW : ∀ t', t' < m → RW σ t') : zC X d 0 0 m_X4_fittingTexts [.ref 1, .int (nI i), .ref (42 + 2 * s)] L0 (mm σ τ r) (zA σ τ r (cTx (fun t' => cSo (fun h => cDu (z_up σ 1 4 (nI t')) n t' h i) (σ (43 + 2 * s)) 13 0) m)) := by
  have hi8 : i < 8 := by have := hK.1; omega
  generalize hf : (fun t' => cSo (fun h => cDu (z_up σ 1 4 (nI t')) n t' h i) (σ (43 + 2 * s)) 13 0) = f
  have hft : ∀ t', cSo (fun h => cDu (z_up σ 1 4 (nI t')) n t' h i) (σ (43 + 2 * s)) 13 0 = f t' := fun t' => by rw [← hf]
  have lp : ∀ (c t' : Nat) (σ1 : zSg) (u : Int32), t' + c = m → SE (z_up σ 1 4 u) σ1 → zT X d m_X4_fittingTexts (zA σ τ r (cTx f m)) 0 0 11 [some (.ref 1), some (.int (nI i)), some (.ref (42 + 2 * s)), some (.int (σ 1 4)), some (.int (cTx f t')), some (.int (nI t')), none, none] [] L0 (mm σ1 τ r) := by
    intro c
    induction c with
    | zero =>
      intro t' σ1 u ht' s1
      have ht' : t' = m := by omega
      subst ht'
      have sF : SE σ (z_up σ1 1 4 (σ 1 4)) := by
        have := s1.sq 4 (σ 1 4)
        rw [sq_sq, sq_id] at this
        exact this
      refine zT.step ct_X4_fittingTexts_ok ?_
      refine zT.step ct_X4_fittingTexts_ok ?_
      refine zT.step ct_X4_fittingTexts_ok ?_
      refine And.intro ⟨by decide, _, rfl⟩ ?_
      refine zT.step ct_X4_fittingTexts_ok ?_
      refine And.intro (fun q => ?_) (fun q => ?_)
      · refine zT.step ct_X4_fittingTexts_ok ?_
        refine zT.step ct_X4_fittingTexts_ok ?_
        refine zT.step ct_X4_fittingTexts_ok ?_
        refine And.intro ⟨by decide, _, rfl⟩ ?_
        refine zT.step ct_X4_fittingTexts_ok ?_
        refine zT.step ct_X4_fittingTexts_ok ?_
        exact zA.mk rfl sF
      · have q : ¬ σ1 1 3 ≤ nI t' := q
        rw [s1.2 3 (by decide) (by decide), sq_k _ _ _ _ (by decide), hm] at q
        exact absurd ((i_le rfl rfl (by omega) (by omega)).mpr (Nat.le_refl _)) q
    | succ c ih =>
      intro t' σ1 u ht' s1
      have K2 := hK.ru (t' := t') (by omega) (hW t' (by omega))
      have hs2 := hs.sq (k := 4) (v := nI t')
      have back : ∀ (σ2 : zSg) (b : Bool) (l7 : Option Value), b = f t' → SE (z_up σ 1 4 (nI t')) σ2 → zT X d m_X4_fittingTexts (zA σ τ r (cTx f m)) 0 0 77 [some (.ref 1), some (.int (nI i)), some (.ref (42 + 2 * s)), some (.int (σ 1 4)), some (.int (cTx f t')), some (.int (nI t')), some (.int (f_b b)), none] [] L0 (mm σ2 τ r) := by
        intro σ2 b l7 hb s2
        have nx := ih (t' + 1) σ2 (nI t') (by omega) s2
        refine zT.step ct_X4_fittingTexts_ok ?_
        refine zT.step ct_X4_fittingTexts_ok ?_
        refine And.intro (fun q => ?_) (fun q => ?_)
        · have hb : f t' = false := by rw [← hb]; exact fb0 q
          have e : cTx f (t' + 1) = cTx f t' := by show (bif f t' then _ else _) = _; rw [hb]; rfl
          rw [e] at nx
          refine zT.step ct_X4_fittingTexts_ok ?_
          refine zT.step ct_X4_fittingTexts_ok ?_
          rw [nI_1]
          refine zT.drop 6 ?_
          exact nx
        · have hb : f t' = true := by rw [← hb]; exact fb1 q
          have e : cTx f (t' + 1) = cTx f t' ||| 1 <<< (nI t' &&& 31) := by show (bif f t' then _ else _) = _; rw [hb]; rfl
          rw [e] at nx
          refine zT.step ct_X4_fittingTexts_ok ?_
          refine zT.step ct_X4_fittingTexts_ok ?_
          refine zT.step ct_X4_fittingTexts_ok ?_
          refine zT.step ct_X4_fittingTexts_ok ?_
          refine zT.step ct_X4_fittingTexts_ok ?_
          refine zT.step ct_X4_fittingTexts_ok ?_
          refine zT.step ct_X4_fittingTexts_ok ?_
          refine zT.step ct_X4_fittingTexts_ok ?_
          rw [nI_1]
          refine zT.drop 6 ?_
          exact nx
      have hrs : ∀ (c h : Nat) (σ2 : zSg), h + c = 13 → SE (z_up σ 1 4 (nI t')) σ2 → cSo (fun h => cDu (z_up σ 1 4 (nI t')) n t' h i) (σ (43 + 2 * s)) c h = f t' → zT X d m_X4_fittingTexts (zA σ τ r (cTx f m)) 0 0 32 [some (.ref 1), some (.int (nI i)), some (.ref (42 + 2 * s)), some (.int (σ 1 4)), some (.int (cTx f t')), some (.int (nI t')), some (.int 1), some (.int (nI h))] [] L0 (mm σ2 τ r) := by
        intro c
        induction c with
        | zero =>
          intro h σ2 hh s2 hF
          have hh : h = 13 := by omega
          subst hh
          refine zT.step ct_X4_fittingTexts_ok ?_
          refine zT.step ct_X4_fittingTexts_ok ?_
          refine zT.step ct_X4_fittingTexts_ok ?_
          refine And.intro (fun q => ?_) (fun q => ?_)
          · refine zT.drop 7 ?_
            exact back σ2 true none hF s2
          · exact absurd (show (13 : Int32) ≤ nI 13 by decide) q
        | succ c ihh =>
          intro h σ2 hh s2 hF
          refine zT.step ct_X4_fittingTexts_ok ?_
          refine zT.step ct_X4_fittingTexts_ok ?_
          refine zT.step ct_X4_fittingTexts_ok ?_
          refine And.intro (fun q => ?_) (fun q => ?_)
          · have := (i_le (x := 13) (a := 13) (y := nI h) rfl rfl (by omega) (by omega)).mp q
            omega
          refine zT.step ct_X4_fittingTexts_ok ?_
          refine zT.step ct_X4_fittingTexts_ok ?_
          refine And.intro (fun q => absurd q (by decide)) (fun q => ?_)
          refine zT.step ct_X4_fittingTexts_ok ?_
          refine zT.step ct_X4_fittingTexts_ok ?_
          refine zT.step ct_X4_fittingTexts_ok ?_
          refine And.intro ⟨by omega, by decide, _, rfl⟩ (zC.use (s_lookK (by omega) (K2.se s2) (show h < 13 by omega)) (fun w L2 μ2 hw => ?_))
          obtain ⟨rfl, rfl, σ', rfl, H⟩ := hw
          refine zT.step ct_X4_fittingTexts_ok ?_
          refine zT.step ct_X4_fittingTexts_ok ?_
          refine zT.step ct_X4_fittingTexts_ok ?_
          refine And.intro ⟨by omega, by decide, _, rfl⟩ (zF.use (s_dueOf hi8) ?_)
          rw [H.due hi, s2.eDu]
          have s3 := s2.trans H.se
          refine zT.step ct_X4_fittingTexts_ok ?_
          refine zT.step ct_X4_fittingTexts_ok ?_
          refine zT.step ct_X4_fittingTexts_ok ?_
          refine And.intro ⟨by omega, (L0_sheet hs.1).1⟩ (zF.use (s_at13 (hs2.1.se s3).1 (show h < 13 by omega)) ?_)
          rw [(hs2.1.se s3).2, hs2.2]
          refine zT.step ct_X4_fittingTexts_ok ?_
          refine And.intro (fun q => ?_) (fun q => ?_)
          · have q : cDu (z_up σ 1 4 (nI t')) n t' h i = σ (43 + 2 * s) h := q
            have e : cSo (fun h => cDu (z_up σ 1 4 (nI t')) n t' h i) (σ (43 + 2 * s)) (c + 1) h = cSo (fun h => cDu (z_up σ 1 4 (nI t')) n t' h i) (σ (43 + 2 * s)) c (h + 1) := if_pos q
            rw [e] at hF
            refine zT.step ct_X4_fittingTexts_ok ?_
            refine zT.step ct_X4_fittingTexts_ok ?_
            refine zT.step ct_X4_fittingTexts_ok ?_
            refine zT.step ct_X4_fittingTexts_ok ?_
            refine zT.step ct_X4_fittingTexts_ok ?_
            rw [nI_1]
            exact ihh (h + 1) σ' (by omega) s3 hF
          · have q : ¬ cDu (z_up σ 1 4 (nI t')) n t' h i = σ (43 + 2 * s) h := q
            have e : cSo (fun h => cDu (z_up σ 1 4 (nI t')) n t' h i) (σ (43 + 2 * s)) (c + 1) h = false := if_neg q
            rw [e] at hF
            refine zT.step ct_X4_fittingTexts_ok ?_
            refine zT.step ct_X4_fittingTexts_ok ?_
            refine zT.step ct_X4_fittingTexts_ok ?_
            refine zT.step ct_X4_fittingTexts_ok ?_
            refine zT.step ct_X4_fittingTexts_ok ?_
            refine zT.step ct_X4_fittingTexts_ok ?_
            refine zT.step ct_X4_fittingTexts_ok ?_
            refine And.intro (fun q => ?_) (fun q => ?_)
            · refine zT.drop 7 ?_
              exact back σ' false none hF s3
            · refine zT.step ct_X4_fittingTexts_ok ?_
              refine zT.step ct_X4_fittingTexts_ok ?_
              refine And.intro (fun q => ?_) (fun q => absurd rfl q)
              refine zT.drop 7 ?_
              exact back σ' false none hF s3
      have s2 : SE (z_up σ 1 4 (nI t')) (z_up σ1 1 4 (nI t')) := by
        have := s1.sq 4 (nI t')
        rw [sq_sq] at this
        exact this
      refine zT.step ct_X4_fittingTexts_ok ?_
      refine zT.step ct_X4_fittingTexts_ok ?_
      refine zT.step ct_X4_fittingTexts_ok ?_
      refine And.intro ⟨by decide, _, rfl⟩ ?_
      refine zT.step ct_X4_fittingTexts_ok ?_
      refine And.intro (fun q => ?_) (fun q => ?_)
      · have q : σ1 1 3 ≤ nI t' := q
        rw [s1.2 3 (by decide) (by decide), sq_k _ _ _ _ (by decide), hm] at q
        have := (i_le (x := nI m) (y := nI t') rfl rfl (by omega) (by omega)).mp q
        omega
      refine zT.step ct_X4_fittingTexts_ok ?_
      refine zT.step ct_X4_fittingTexts_ok ?_
      refine zT.step ct_X4_fittingTexts_ok ?_
      refine And.intro ⟨by decide, _, rfl⟩ ?_
      refine zT.step ct_X4_fittingTexts_ok ?_
      refine zT.step ct_X4_fittingTexts_ok ?_
      refine zT.step ct_X4_fittingTexts_ok ?_
      refine zT.step ct_X4_fittingTexts_ok ?_
      exact hrs 13 0 _ rfl s2 (hft t')
  refine zC.of mk_X4_fittingTexts rfl ?_
  refine zT.step ct_X4_fittingTexts_ok ?_
  refine zT.step ct_X4_fittingTexts_ok ?_
  refine And.intro ⟨by decide, _, rfl⟩ ?_
  refine zT.step ct_X4_fittingTexts_ok ?_
  refine zT.step ct_X4_fittingTexts_ok ?_
  refine zT.step ct_X4_fittingTexts_ok ?_
  refine zT.step ct_X4_fittingTexts_ok ?_
  refine zT.step ct_X4_fittingTexts_ok ?_
  exact lp m 0 σ (σ 1 4) (by omega) (by rw [sq_id]; exact SE.rf)
def cMc (du tl : Nat → Int32) : Nat → Int32
  | 0 => 0
  | h + 1 => if du h = tl h then cMc du tl h else cMc du tl h ||| 1 <<< (nI h &&& 31)
def cMl (tl : Nat → Int32) : Nat → Int32
  | 0 => 0
  | h + 1 => if tl h = 0 then cMl tl h else cMl tl h ||| 1 <<< (nI h &&& 31)
def cPi (mc ml : Int32) (a : Nat) : Nat → Nat → Int32 → Int32
  | 0, _, c => c
  | m + 1, b, c => cPi mc ml a m (b + 1) (if mc &&& ((1 <<< (nI a &&& 31) ||| 1 <<< (nI b &&& 31)) ^^^ -1) = 0 then (if ml &&& (1 <<< (nI a &&& 31) ||| 1 <<< (nI b &&& 31)) = 0 then c + 1 else c) else c)
def cPo (mc ml : Int32) : Nat → Nat → Int32 → Int32
  | 0, _, c => c
  | m + 1, a, c => cPo mc ml m (a + 1) (cPi mc ml a (13 - a) a c)
theorem s_fittingClouds {X : zXs} {d n t s i : Nat} {σ : zSg} {τ : Nat → Nat → Int64} {r : Option Nat} (hd : 6 ≤ d) (hK : CK σ n t) (hi : i < n) (hs : z_sh13 σ s) : zC X d 0 0 m_X6_fittingClouds [.ref 0, .ref (42 + 2 * s), .int (nI i)] L0 (mm σ τ r) (zA σ τ r (cPo (cMc (fun h => cDu (z_up σ 1 6 0) n t h i) (σ (43 + 2 * s)) 13) (cMl (σ (43 + 2 * s)) 13) 13 0 (if cMc (fun h => cDu (z_up σ 1 6 0) n t h i) (σ (43 + 2 * s)) 13 = 0 then 1 else 0))) := by
  have hi8 : i < 8 := by have := hK.1; omega
  generalize hmc : cMc (fun h => cDu (z_up σ 1 6 0) n t h i) (σ (43 + 2 * s)) 13 = mc
  generalize hml : cMl (σ (43 + 2 * s)) 13 = ml
  generalize hres : cPo mc ml 13 0 (if mc = 0 then 1 else 0) = res
  have pairs : ∀ (σ1 : zSg) (l5 : Int32), SE σ σ1 → ∀ (m a : Nat) (c : Int32), a + m = 13 → cPo mc ml m a c = res → zT X d m_X6_fittingClouds (zA σ τ r res) 0 0 112 [some (.ref 0), some (.ref (42 + 2 * s)), some (.int (nI i)), some (.int mc), some (.int ml), some (.int l5), some (.int c), some (.int (nI a)), none, none] [] L0 (mm σ1 τ r) := by
    intro σ1 l5 s1 m
    induction m with
    | zero =>
      intro a c ha hF
      have hF : c = res := hF
      have ha : a = 13 := by omega
      subst ha
      subst hF
      refine zT.step ct_X6_fittingClouds_ok ?_
      refine zT.step ct_X6_fittingClouds_ok ?_
      refine zT.step ct_X6_fittingClouds_ok ?_
      refine And.intro (fun q => ?_) (fun q => ?_)
      · refine zT.step ct_X6_fittingClouds_ok ?_
        refine zT.step ct_X6_fittingClouds_ok ?_
        exact zA.mk rfl s1
      · exact absurd (show (13 : Int32) ≤ nI 13 by decide) q
    | succ m ih =>
      intro a c ha hF
      have hF : cPo mc ml m (a + 1) (cPi mc ml a (13 - a) a c) = res := hF
      have inn : ∀ (k b : Nat) (c : Int32), b + k = 13 → cPo mc ml m (a + 1) (cPi mc ml a k b c) = res → zT X d m_X6_fittingClouds (zA σ τ r res) 0 0 123 [some (.ref 0), some (.ref (42 + 2 * s)), some (.int (nI i)), some (.int mc), some (.int ml), some (.int l5), some (.int c), some (.int (nI a)), some (.int (nI b)), none] [] L0 (mm σ1 τ r) := by
        intro k
        induction k with
        | zero =>
          intro b c hb hF
          have hb : b = 13 := by omega
          subst hb
          refine zT.step ct_X6_fittingClouds_ok ?_
          refine zT.step ct_X6_fittingClouds_ok ?_
          refine zT.step ct_X6_fittingClouds_ok ?_
          refine And.intro (fun q => ?_) (fun q => ?_)
          · refine zT.step ct_X6_fittingClouds_ok ?_
            refine zT.step ct_X6_fittingClouds_ok ?_
            rw [nI_1]
            refine zT.drop 8 ?_
            exact ih (a + 1) c (by omega) hF
          · exact absurd (show (13 : Int32) ≤ nI 13 by decide) q
        | succ k ihk =>
          intro b c hb hF
          have hF : cPo mc ml m (a + 1) (cPi mc ml a k (b + 1) (if mc &&& ((1 <<< (nI a &&& 31) ||| 1 <<< (nI b &&& 31)) ^^^ -1) = 0 then (if ml &&& (1 <<< (nI a &&& 31) ||| 1 <<< (nI b &&& 31)) = 0 then c + 1 else c) else c)) = res := hF
          have nx : ∀ c', c' = (if mc &&& ((1 <<< (nI a &&& 31) ||| 1 <<< (nI b &&& 31)) ^^^ -1) = 0 then (if ml &&& (1 <<< (nI a &&& 31) ||| 1 <<< (nI b &&& 31)) = 0 then c + 1 else c) else c) → ∀ l9 : Int32, zT X d m_X6_fittingClouds (zA σ τ r res) 0 0 161 [some (.ref 0), some (.ref (42 + 2 * s)), some (.int (nI i)), some (.int mc), some (.int ml), some (.int l5), some (.int c'), some (.int (nI a)), some (.int (nI b)), some (.int l9)] [] L0 (mm σ1 τ r) := by
            intro c' hc' l9
            refine zT.step ct_X6_fittingClouds_ok ?_
            refine zT.step ct_X6_fittingClouds_ok ?_
            rw [nI_1]
            refine zT.drop 9 ?_
            exact ihk (b + 1) c' (by omega) (by rw [hc']; exact hF)
          refine zT.step ct_X6_fittingClouds_ok ?_
          refine zT.step ct_X6_fittingClouds_ok ?_
          refine zT.step ct_X6_fittingClouds_ok ?_
          refine And.intro (fun q => ?_) (fun q => ?_)
          · have := (i_le (x := 13) (a := 13) (y := nI b) rfl rfl (by omega) (by omega)).mp q
            omega
          refine zT.step ct_X6_fittingClouds_ok ?_
          refine zT.step ct_X6_fittingClouds_ok ?_
          refine zT.step ct_X6_fittingClouds_ok ?_
          refine zT.step ct_X6_fittingClouds_ok ?_
          refine zT.step ct_X6_fittingClouds_ok ?_
          refine zT.step ct_X6_fittingClouds_ok ?_
          refine zT.step ct_X6_fittingClouds_ok ?_
          refine zT.step ct_X6_fittingClouds_ok ?_
          refine zT.step ct_X6_fittingClouds_ok ?_
          refine zT.step ct_X6_fittingClouds_ok ?_
          refine zT.step ct_X6_fittingClouds_ok ?_
          refine zT.step ct_X6_fittingClouds_ok ?_
          refine zT.step ct_X6_fittingClouds_ok ?_
          refine zT.step ct_X6_fittingClouds_ok ?_
          refine And.intro (fun q1 => ?_) (fun q1 => ?_)
          · have q1 : mc &&& ((1 <<< (nI a &&& 31) ||| 1 <<< (nI b &&& 31)) ^^^ -1) = 0 := q1
            refine zT.step ct_X6_fittingClouds_ok ?_
            refine zT.step ct_X6_fittingClouds_ok ?_
            refine zT.step ct_X6_fittingClouds_ok ?_
            refine zT.step ct_X6_fittingClouds_ok ?_
            refine And.intro (fun q2 => ?_) (fun q2 => ?_)
            · have q2 : ml &&& (1 <<< (nI a &&& 31) ||| 1 <<< (nI b &&& 31)) = 0 := q2
              refine zT.step ct_X6_fittingClouds_ok ?_
              exact nx (c + 1) (by rw [if_pos q1, if_pos q2]) _
            · have q2 : ¬ ml &&& (1 <<< (nI a &&& 31) ||| 1 <<< (nI b &&& 31)) = 0 := q2
              exact nx c (by rw [if_pos q1, if_neg q2]) _
          · have q1 : ¬ mc &&& ((1 <<< (nI a &&& 31) ||| 1 <<< (nI b &&& 31)) ^^^ -1) = 0 := q1
            exact nx c (by rw [if_neg q1]) _
      refine zT.step ct_X6_fittingClouds_ok ?_
      refine zT.step ct_X6_fittingClouds_ok ?_
      refine zT.step ct_X6_fittingClouds_ok ?_
      refine And.intro (fun q => ?_) (fun q => ?_)
      · have := (i_le (x := 13) (a := 13) (y := nI a) rfl rfl (by omega) (by omega)).mp q
        omega
      refine zT.step ct_X6_fittingClouds_ok ?_
      refine zT.step ct_X6_fittingClouds_ok ?_
      exact inn (13 - a) a c (by omega) hF
  have hs2 := hs.sq (k := 6) (v := 0)
  have lp : ∀ (m h : Nat) (σ1 : zSg), h + m = 13 → SE (z_up σ 1 6 0) σ1 → zT X d m_X6_fittingClouds (zA σ τ r res) 0 0 25 [some (.ref 0), some (.ref (42 + 2 * s)), some (.int (nI i)), some (.int (cMc (fun h => cDu (z_up σ 1 6 0) n t h i) (σ (43 + 2 * s)) h)), some (.int (cMl (σ (43 + 2 * s)) h)), some (.int (σ 1 6)), some (.int (nI h)), none, none, none] [] L0 (mm σ1 τ r) := by
    intro m
    induction m with
    | zero =>
      intro h σ1 hh s1
      have hh : h = 13 := by omega
      subst hh
      rw [hmc, hml]
      have sF : SE σ (z_up σ1 1 6 (σ 1 6)) := by
        have := s1.sq 6 (σ 1 6)
        rw [sq_sq, sq_id] at this
        exact this
      refine zT.step ct_X6_fittingClouds_ok ?_
      refine zT.step ct_X6_fittingClouds_ok ?_
      refine zT.step ct_X6_fittingClouds_ok ?_
      refine And.intro (fun q => ?_) (fun q => ?_)
      · refine zT.step ct_X6_fittingClouds_ok ?_
        refine zT.step ct_X6_fittingClouds_ok ?_
        refine And.intro ⟨by decide, _, rfl⟩ ?_
        refine zT.step ct_X6_fittingClouds_ok ?_
        refine zT.step ct_X6_fittingClouds_ok ?_
        refine And.intro ⟨by decide, _, rfl⟩ ?_
        refine zT.step ct_X6_fittingClouds_ok ?_
        refine zT.step ct_X6_fittingClouds_ok ?_
        refine And.intro (fun q => ?_) (fun q => ?_)
        · refine zT.step ct_X6_fittingClouds_ok ?_
          refine zT.step ct_X6_fittingClouds_ok ?_
          refine zT.step ct_X6_fittingClouds_ok ?_
          refine zT.step ct_X6_fittingClouds_ok ?_
          refine zT.step ct_X6_fittingClouds_ok ?_
          exact pairs _ _ sF 13 0 1 rfl (by rw [← hres, if_pos q])
        · refine zT.step ct_X6_fittingClouds_ok ?_
          refine zT.step ct_X6_fittingClouds_ok ?_
          refine zT.step ct_X6_fittingClouds_ok ?_
          refine zT.step ct_X6_fittingClouds_ok ?_
          exact pairs _ _ sF 13 0 0 rfl (by rw [← hres, if_neg q])
      · exact absurd (show (13 : Int32) ≤ nI 13 by decide) q
    | succ m ih =>
      intro h σ1 hh s1
      refine zT.step ct_X6_fittingClouds_ok ?_
      refine zT.step ct_X6_fittingClouds_ok ?_
      refine zT.step ct_X6_fittingClouds_ok ?_
      refine And.intro (fun q => ?_) (fun q => ?_)
      · have := (i_le (x := 13) (a := 13) (y := nI h) rfl rfl (by omega) (by omega)).mp q
        omega
      refine zT.step ct_X6_fittingClouds_ok ?_
      refine zT.step ct_X6_fittingClouds_ok ?_
      refine And.intro ⟨by decide, _, rfl⟩ ?_
      refine zT.step ct_X6_fittingClouds_ok ?_
      refine zT.step ct_X6_fittingClouds_ok ?_
      refine And.intro ⟨by omega, by decide, _, rfl⟩ (zC.use (s_lookK (by omega) (hK.cl.se s1) (show h < 13 by omega)) (fun w L2 μ2 hw => ?_))
      obtain ⟨rfl, rfl, σ', rfl, H⟩ := hw
      refine zT.step ct_X6_fittingClouds_ok ?_
      refine zT.step ct_X6_fittingClouds_ok ?_
      refine And.intro ⟨by decide, _, rfl⟩ ?_
      refine zT.step ct_X6_fittingClouds_ok ?_
      refine zT.step ct_X6_fittingClouds_ok ?_
      refine And.intro ⟨by omega, by decide, _, rfl⟩ (zF.use (s_dueOf hi8) ?_)
      rw [H.due hi, s1.eDu]
      have s3 := s1.trans H.se
      have nx := ih (h + 1) σ' (by omega) s3
      have rest : ∀ x, x = cMc (fun h => cDu (z_up σ 1 6 0) n t h i) (σ (43 + 2 * s)) (h + 1) → zT X d m_X6_fittingClouds (zA σ τ r res) 0 0 65 [some (.ref 0), some (.ref (42 + 2 * s)), some (.int (nI i)), some (.int x), some (.int (cMl (σ (43 + 2 * s)) h)), some (.int (σ 1 6)), some (.int (nI h)), none, none, none] [] L0 (mm σ' τ r) := by
        intro x hx
        subst hx
        refine zT.step ct_X6_fittingClouds_ok ?_
        refine zT.step ct_X6_fittingClouds_ok ?_
        refine zT.step ct_X6_fittingClouds_ok ?_
        refine And.intro ⟨by omega, (L0_sheet hs.1).1⟩ (zF.use (s_at13 (hs2.1.se s3).1 (show h < 13 by omega)) ?_)
        rw [(hs2.1.se s3).2, hs2.2]
        refine zT.step ct_X6_fittingClouds_ok ?_
        refine And.intro (fun q => ?_) (fun q => ?_)
        · have q : σ (43 + 2 * s) h = 0 := q
          have e : cMl (σ (43 + 2 * s)) (h + 1) = cMl (σ (43 + 2 * s)) h := if_pos q
          rw [e] at nx
          refine zT.step ct_X6_fittingClouds_ok ?_
          refine zT.step ct_X6_fittingClouds_ok ?_
          rw [nI_1]
          exact nx
        · have q : ¬ σ (43 + 2 * s) h = 0 := q
          have e : cMl (σ (43 + 2 * s)) (h + 1) = cMl (σ (43 + 2 * s)) h ||| 1 <<< (nI h &&& 31) := if_neg q
          rw [e] at nx
          refine zT.step ct_X6_fittingClouds_ok ?_
          refine zT.step ct_X6_fittingClouds_ok ?_
          refine zT.step ct_X6_fittingClouds_ok ?_
          refine zT.step ct_X6_fittingClouds_ok ?_
          refine zT.step ct_X6_fittingClouds_ok ?_
          refine zT.step ct_X6_fittingClouds_ok ?_
          refine zT.step ct_X6_fittingClouds_ok ?_
          refine zT.step ct_X6_fittingClouds_ok ?_
          rw [nI_1]
          exact nx
      refine zT.step ct_X6_fittingClouds_ok ?_
      refine zT.step ct_X6_fittingClouds_ok ?_
      refine zT.step ct_X6_fittingClouds_ok ?_
      refine And.intro ⟨by omega, (L0_sheet hs.1).1⟩ (zF.use (s_at13 (hs2.1.se s3).1 (show h < 13 by omega)) ?_)
      rw [(hs2.1.se s3).2, hs2.2]
      refine zT.step ct_X6_fittingClouds_ok ?_
      refine And.intro (fun q => rest _ (if_pos q).symm) (fun q => ?_)
      refine zT.step ct_X6_fittingClouds_ok ?_
      refine zT.step ct_X6_fittingClouds_ok ?_
      refine zT.step ct_X6_fittingClouds_ok ?_
      refine zT.step ct_X6_fittingClouds_ok ?_
      refine zT.step ct_X6_fittingClouds_ok ?_
      refine zT.step ct_X6_fittingClouds_ok ?_
      exact rest _ (if_neg q).symm
  refine zC.of mk_X6_fittingClouds rfl ?_
  refine zT.step ct_X6_fittingClouds_ok ?_
  refine zT.step ct_X6_fittingClouds_ok ?_
  refine zT.step ct_X6_fittingClouds_ok ?_
  refine zT.step ct_X6_fittingClouds_ok ?_
  refine zT.step ct_X6_fittingClouds_ok ?_
  refine zT.step ct_X6_fittingClouds_ok ?_
  refine And.intro ⟨by decide, _, rfl⟩ ?_
  refine zT.step ct_X6_fittingClouds_ok ?_
  refine And.intro ⟨by decide, _, rfl⟩ ?_
  refine zT.step ct_X6_fittingClouds_ok ?_
  refine zT.step ct_X6_fittingClouds_ok ?_
  refine zT.step ct_X6_fittingClouds_ok ?_
  refine And.intro ⟨by decide, _, rfl⟩ ?_
  refine zT.step ct_X6_fittingClouds_ok ?_
  refine zT.step ct_X6_fittingClouds_ok ?_
  refine And.intro ⟨by decide, _, rfl⟩ ?_
  refine zT.step ct_X6_fittingClouds_ok ?_
  refine zT.step ct_X6_fittingClouds_ok ?_
  exact lp 13 0 _ rfl SE.rf
