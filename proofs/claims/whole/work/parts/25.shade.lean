/-! shade, send -/
theorem zC.wk {X : zXs} {d k n : Nat} {M : zMD} {as : List Value} {L : List zSh} {μ : zMem} {Q Q' : zRQ} (h : zC X d k n M as L μ Q) (hQ : ∀ v L μ, Q v L μ → Q' v L μ) : zC X d k n M as L μ Q' := by
  intro l b oa D ca p e ha hc hk s m args below hf happ hP hK
  obtain ⟨nn, o, h1, h2, h3, ⟨v, L2, μ2, e1, e2, e3, e4⟩, L3, hF, hL⟩ := h l b oa D ca p e ha hc hk s m args below hf happ hP hK
  exact ⟨nn, o, h1, h2, h3, ⟨v, L2, μ2, e1, hQ v L2 μ2 e2, e3, e4⟩, L3, hF, hL⟩
theorem LK.hs {σ σ' : zSg} {n t h : Nat} {aw hd dk : Int32} (H : LK σ σ' n t h aw) : SE σ (z_hs σ' hd dk) ∧ (∀ i, i < n → z_hs σ' hd dk 4 i = cL σ t h i ∧ z_hs σ' hd dk 5 i = cD σ t h i) := by
  refine ⟨⟨fun b b1 b4 b5 b6 b7 => ?_, fun y y9 y10 => ?_⟩, fun i hi => ?_⟩
  · rw [z_hs_o _ _ _ _ b1]
    exact H.1 b b1 b4 b5 b6 b7
  · show z_up (z_up σ' 1 9 _) 1 10 _ 1 y = _
    rw [z_up_n _ _ _ _ _ _ (fun z => y10 z.2), z_up_n _ _ _ _ _ _ (fun z => y9 z.2)]
    exact H.2.1 y y9 y10
  · rw [z_hs_o _ _ _ _ (by decide), z_hs_o _ _ _ _ (by decide)]
    exact H.2.2.1 i hi
/-- what is hidden without thing x (x itself counts as hidden) -/
def cWo (σ : zSg) (n t h x : Nat) : Int32 := (cS σ n t h (nI x)).1 ||| 1 <<< (nI x &&& 31)
/-- rows of a look stand -/
def RL (σ σ' : zSg) (n t h : Nat) : Prop := SE σ σ' ∧ ∀ i, i < n → σ' 4 i = cL σ t h i ∧ σ' 5 i = cD σ t h i
theorem s_cw {X : zXs} {d n t h x : Nat} {σ σ1 : zSg} {τ : Nat → Nat → Int64} {r : Option Nat} (hd : 4 ≤ d) (hK : CK σ n t) (hh : h < 13) (s1 : RL σ σ1 n t h) : zC X d 0 0 m_X4_castWithout [.ref 1, .int (nI x), .int (nI h)] L0 (mm σ1 τ r) (fun w L2 μ2 => w = none ∧ L2 = L0 ∧ ∃ σ' : zSg, μ2 = mm σ' τ r ∧ RL σ σ' n t h ∧ σ' 1 9 = cWo σ n t h x) := by
  have K1 := hK.se s1.1
  have e : g_sw n (fun i => σ1 (8 + i)) (σ1 4) h (nI x) = cS σ n t h (nI x) := g_sw_congr (fun i _ => s1.1.th i) (fun i hi => (s1.2 i hi).1)
  have hc := s_castWithout (X := X) (d := d) (τ := τ) (r := r) (σ := σ1) (n := n) (h := h) (x := x) hd hK.1 K1.2.1 hh K1.2.2.2.2.2
  rw [e] at hc
  refine zC.wk hc (fun w L2 μ2 q => ?_)
  obtain ⟨rfl, rfl, rfl⟩ := q
  refine ⟨rfl, rfl, _, rfl, ⟨⟨fun b b1 b4 b5 b6 b7 => ?_, fun y y9 y10 => ?_⟩, fun i hi => ?_⟩, rfl⟩
  · rw [z_hs_o _ _ _ _ b1]
    exact s1.1.1 b b1 b4 b5 b6 b7
  · show z_up (z_up σ1 1 9 _) 1 10 _ 1 y = _
    rw [z_up_n _ _ _ _ _ _ (fun z => y10 z.2), z_up_n _ _ _ _ _ _ (fun z => y9 z.2)]
    exact s1.1.2 y y9 y10
  · rw [z_hs_o _ _ _ _ (by decide), z_hs_o _ _ _ _ (by decide)]
    exact s1.2 i hi
def cShade (σ : zSg) (n t h i : Nat) : Nat → Int32 × Int32
  | 0 => (-1, cDu σ n t h i)
  | x + 1 => if x = i then cShade σ n t h i x else if f_due (cWo σ n t h x) (cD σ t h) i ≤ (cShade σ n t h i x).2 then cShade σ n t h i x else (nI x, f_due (cWo σ n t h x) (cD σ t h) i)
def v_shade (σ : zSg) (n t : Nat) (x y z : Int32) : Int32 := bif rg x n && rg y 13 && rg z 2 then (if z = 0 then (cShade σ n t y.toNatClampNeg x.toNatClampNeg n).1 else (cShade σ n t y.toNatClampNeg x.toNatClampNeg n).2) else -2
theorem s_shade {X : zXs} {d n t : Nat} {σ : zSg} {τ : Nat → Nat → Int64} {r : Option Nat} {x y z : Int32} (hd : 7 ≤ d) (hK : CK σ n t) : zC X d 0 0 m_X6_shade [.ref 0, .int x, .int y, .int z] L0 (mm σ τ r) (zA σ τ r (v_shade σ n t x y z)) := by
  have bad : (rg x n && rg y 13 && rg z 2) = false → zT X d m_X6_shade (zA σ τ r (v_shade σ n t x y z)) 0 0 27 [some (.ref 0), some (.int x), some (.int y), some (.int z), none, none, none, none] [] L0 (mm σ τ r) := by
    intro h
    refine zT.step ct_X6_shade_ok ?_
    refine zT.step ct_X6_shade_ok ?_
    exact zA.mk (by unfold v_shade; rw [h]; rfl) SE.rf
  refine zC.of mk_X6_shade rfl ?_
  refine zT.step ct_X6_shade_ok ?_
  refine zT.step ct_X6_shade_ok ?_
  refine And.intro ⟨by decide, _, rfl⟩ ?_
  refine zT.step ct_X6_shade_ok ?_
  refine zT.step ct_X6_shade_ok ?_
  refine And.intro ⟨by omega, by decide, _, rfl⟩ (zF.use (s_hasK hK) ?_)
  refine zT.step ct_X6_shade_ok ?_
  refine And.intro (fun q => ?_) (fun q => ?_)
  · exact bad (by rw [fb0 q]; rfl)
  have hx := fb1 q
  refine zT.step ct_X6_shade_ok ?_
  refine zT.step ct_X6_shade_ok ?_
  refine And.intro (by omega) (zF.use s_isHourK ?_)
  refine zT.step ct_X6_shade_ok ?_
  refine And.intro (fun q => ?_) (fun q => ?_)
  · exact bad (by rw [fb0 q, hx]; rfl)
  have hy := fb1 q
  refine zT.step ct_X6_shade_ok ?_
  refine zT.step ct_X6_shade_ok ?_
  refine And.intro (fun q => ?_) (fun q => ?_)
  · exact bad (by rw [hx, hy, rg_neg q]; rfl)
  have h0 : ¬ z < 0 := q
  refine zT.step ct_X6_shade_ok ?_
  refine zT.step ct_X6_shade_ok ?_
  refine zT.step ct_X6_shade_ok ?_
  refine And.intro (fun q => ?_) (fun q => ?_)
  · have q : z ≤ nI 1 := q
    have hz : rg z 2 = true := rg_in h0 ((le_lt (by omega)).mp q)
    obtain ⟨i, hi, rfl⟩ := rg_t (by have := hK.1; omega) hx
    obtain ⟨h, hh, rfl⟩ := rg_t (by omega) hy
    have hi8 : i < 8 := by have := hK.1; omega
    have hn8 := hK.1
    have hv : v_shade σ n t (nI i) (nI h) z = (if z = 0 then (cShade σ n t h i n).1 else (cShade σ n t h i n).2) := by
      unfold v_shade
      rw [hx, hy, hz, nI_clamp (by omega), nI_clamp (by omega)]
      rfl
    have lp : ∀ (m c : Nat) (σ1 : zSg), c + m = n → RL σ σ1 n t h → zT X d m_X6_shade (zA σ τ r (v_shade σ n t (nI i) (nI h) z)) 0 0 54 [some (.ref 0), some (.int (nI i)), some (.int (nI h)), some (.int z), some (.int (cShade σ n t h i c).2), some (.int (cShade σ n t h i c).1), some (.int (nI c)), none] [] L0 (mm σ1 τ r) := by
      intro m
      induction m with
      | zero =>
        intro c σ1 hc s1
        have hc : c = n := by omega
        subst hc
        refine zT.step ct_X6_shade_ok ?_
        refine zT.step ct_X6_shade_ok ?_
        refine zT.step ct_X6_shade_ok ?_
        refine And.intro ⟨by decide, _, rfl⟩ ?_
        refine zT.step ct_X6_shade_ok ?_
        refine And.intro ⟨by decide, _, rfl⟩ ?_
        refine zT.step ct_X6_shade_ok ?_
        refine And.intro (fun q => ?_) (fun q => ?_)
        · refine zT.step ct_X6_shade_ok ?_
          refine zT.step ct_X6_shade_ok ?_
          refine And.intro (fun z0 => ?_) (fun z0 => ?_)
          · have z0 : z = 0 := z0
            refine zT.step ct_X6_shade_ok ?_
            refine zT.step ct_X6_shade_ok ?_
            refine zT.step ct_X6_shade_ok ?_
            exact zA.mk (by rw [hv, if_pos z0]) s1.1
          · have z0 : ¬ z = 0 := z0
            refine zT.step ct_X6_shade_ok ?_
            refine zT.step ct_X6_shade_ok ?_
            exact zA.mk (by rw [hv, if_neg z0]) s1.1
        · have q : ¬ σ1 1 2 ≤ nI c := q
          rw [(hK.se s1.1).2.1] at q
          exact absurd ((i_le rfl rfl (by omega) (by omega)).mpr (Nat.le_refl _)) q
      | succ m ih =>
        intro c σ1 hc s1
        refine zT.step ct_X6_shade_ok ?_
        refine zT.step ct_X6_shade_ok ?_
        refine zT.step ct_X6_shade_ok ?_
        refine And.intro ⟨by decide, _, rfl⟩ ?_
        refine zT.step ct_X6_shade_ok ?_
        refine And.intro ⟨by decide, _, rfl⟩ ?_
        refine zT.step ct_X6_shade_ok ?_
        refine And.intro (fun q => ?_) (fun q => ?_)
        · have q : σ1 1 2 ≤ nI c := q
          rw [(hK.se s1.1).2.1] at q
          have := (i_le (x := nI n) (y := nI c) rfl rfl (by omega) (by omega)).mp q
          omega
        refine zT.step ct_X6_shade_ok ?_
        refine zT.step ct_X6_shade_ok ?_
        refine zT.step ct_X6_shade_ok ?_
        refine And.intro (fun q => ?_) (fun q => ?_)
        · have q : nI c = nI i := q
          have q : c = i := (nI_eq (by omega) (by omega)).mp q
          have e : cShade σ n t h i (c + 1) = cShade σ n t h i c := if_pos q
          have nx := ih (c + 1) σ1 (by omega) s1
          rw [e] at nx
          refine zT.step ct_X6_shade_ok ?_
          refine zT.step ct_X6_shade_ok ?_
          refine zT.step ct_X6_shade_ok ?_
          rw [nI_1]
          exact nx
        have q : ¬ nI c = nI i := q
        have q : ¬ c = i := fun z => q (by rw [z])
        refine zT.step ct_X6_shade_ok ?_
        refine zT.step ct_X6_shade_ok ?_
        refine And.intro ⟨by decide, _, rfl⟩ ?_
        refine zT.step ct_X6_shade_ok ?_
        refine zT.step ct_X6_shade_ok ?_
        refine zT.step ct_X6_shade_ok ?_
        refine And.intro ⟨by omega, by decide, _, rfl⟩ (zC.use (s_cw (by omega) hK hh s1) (fun w L2 μ2 hw => ?_))
        obtain ⟨rfl, rfl, σ', rfl, s2, h9⟩ := hw
        refine zT.step ct_X6_shade_ok ?_
        refine zT.step ct_X6_shade_ok ?_
        refine And.intro ⟨by decide, _, rfl⟩ ?_
        refine zT.step ct_X6_shade_ok ?_
        refine zT.step ct_X6_shade_ok ?_
        refine And.intro ⟨by omega, by decide, _, rfl⟩ (zF.use (s_dueOf hi8) ?_)
        have hdu : f_due (σ' 1 9) (σ' 5) i = f_due (cWo σ n t h c) (cD σ t h) i := by
          unfold f_due
          rw [h9, (s2.2 i hi).2]
        rw [hdu]
        have nx := ih (c + 1) σ' (by omega) s2
        refine zT.step ct_X6_shade_ok ?_
        refine zT.step ct_X6_shade_ok ?_
        refine zT.step ct_X6_shade_ok ?_
        refine zT.step ct_X6_shade_ok ?_
        refine And.intro (fun q2 => ?_) (fun q2 => ?_)
        · have q2 : f_due (cWo σ n t h c) (cD σ t h) i ≤ (cShade σ n t h i c).2 := q2
          have e : cShade σ n t h i (c + 1) = cShade σ n t h i c := (if_neg q).trans (if_pos q2)
          rw [e] at nx
          refine zT.step ct_X6_shade_ok ?_
          refine zT.step ct_X6_shade_ok ?_
          rw [nI_1]
          refine zT.drop 7 ?_
          exact nx
        · have q2 : ¬ f_due (cWo σ n t h c) (cD σ t h) i ≤ (cShade σ n t h i c).2 := q2
          have e : cShade σ n t h i (c + 1) = (nI c, f_due (cWo σ n t h c) (cD σ t h) i) := (if_neg q).trans (if_neg q2)
          rw [e] at nx
          refine zT.step ct_X6_shade_ok ?_
          refine zT.step ct_X6_shade_ok ?_
          refine zT.step ct_X6_shade_ok ?_
          refine zT.step ct_X6_shade_ok ?_
          refine zT.step ct_X6_shade_ok ?_
          refine zT.step ct_X6_shade_ok ?_
          rw [nI_1]
          refine zT.drop 7 ?_
          exact nx
    refine zT.step ct_X6_shade_ok ?_
    refine zT.step ct_X6_shade_ok ?_
    refine And.intro ⟨by decide, _, rfl⟩ ?_
    refine zT.step ct_X6_shade_ok ?_
    refine zT.step ct_X6_shade_ok ?_
    refine And.intro ⟨by omega, by decide, _, rfl⟩ (zC.use (s_lookK (by omega) hK hh) (fun w L2 μ2 hw => ?_))
    obtain ⟨rfl, rfl, σ', rfl, H⟩ := hw
    refine zT.step ct_X6_shade_ok ?_
    refine zT.step ct_X6_shade_ok ?_
    refine And.intro ⟨by decide, _, rfl⟩ ?_
    refine zT.step ct_X6_shade_ok ?_
    refine zT.step ct_X6_shade_ok ?_
    refine And.intro ⟨by omega, by decide, _, rfl⟩ (zF.use (s_dueOf hi8) ?_)
    rw [H.due hi]
    refine zT.step ct_X6_shade_ok ?_
    refine zT.step ct_X6_shade_ok ?_
    refine zT.step ct_X6_shade_ok ?_
    refine zT.step ct_X6_shade_ok ?_
    refine zT.step ct_X6_shade_ok ?_
    exact lp n 0 σ' (by omega) ⟨H.se, H.2.2.1⟩
  · have q : ¬ z ≤ nI 1 := q
    exact bad (by rw [hx, hy, rg_ge (Int32.not_lt.mp (fun z => q ((le_lt (by omega)).mpr z)))]; rfl)
def cSd (σ : zSg) (n t h x : Nat) : Int32 := cAl σ n t h - cDu σ n t h x - f_all (cWo σ n t h x) (cD σ t h) n
def cSend (σ : zSg) (n t h : Nat) : Nat → Int32 × Int32
  | 0 => (-1, 0)
  | x + 1 => if cSd σ n t h x ≤ (cSend σ n t h x).2 then cSend σ n t h x else (nI x, cSd σ n t h x)
def v_send (σ : zSg) (n t : Nat) (y z : Int32) : Int32 := bif rg y 13 && rg z 2 then (if z = 0 then (cSend σ n t y.toNatClampNeg n).1 else (cSend σ n t y.toNatClampNeg n).2) else -2
theorem s_send {X : zXs} {d n t : Nat} {σ : zSg} {τ : Nat → Nat → Int64} {r : Option Nat} {y z : Int32} (hd : 7 ≤ d) (hK : CK σ n t) : zC X d 0 0 m_X6_send [.ref 0, .int y, .int z] L0 (mm σ τ r) (zA σ τ r (v_send σ n t y z)) := by
  have bad : (rg y 13 && rg z 2) = false → zT X d m_X6_send (zA σ τ r (v_send σ n t y z)) 0 0 16 [some (.ref 0), some (.int y), some (.int z), none, none, none, none, none, none, none] [] L0 (mm σ τ r) := by
    intro h
    refine zT.step ct_X6_send_ok ?_
    refine zT.step ct_X6_send_ok ?_
    exact zA.mk (by unfold v_send; rw [h]; rfl) SE.rf
  refine zC.of mk_X6_send rfl ?_
  refine zT.step ct_X6_send_ok ?_
  refine zT.step ct_X6_send_ok ?_
  refine And.intro (by omega) (zF.use s_isHourK ?_)
  refine zT.step ct_X6_send_ok ?_
  refine And.intro (fun q => ?_) (fun q => ?_)
  · exact bad (by rw [fb0 q]; rfl)
  have hy := fb1 q
  refine zT.step ct_X6_send_ok ?_
  refine zT.step ct_X6_send_ok ?_
  refine And.intro (fun q => ?_) (fun q => ?_)
  · exact bad (by rw [hy, rg_neg q]; rfl)
  have h0 : ¬ z < 0 := q
  refine zT.step ct_X6_send_ok ?_
  refine zT.step ct_X6_send_ok ?_
  refine zT.step ct_X6_send_ok ?_
  refine And.intro (fun q => ?_) (fun q => ?_)
  · have q : z ≤ nI 1 := q
    have hz : rg z 2 = true := rg_in h0 ((le_lt (by omega)).mp q)
    obtain ⟨h, hh, rfl⟩ := rg_t (by omega) hy
    have hn8 := hK.1
    have hv : v_send σ n t (nI h) z = (if z = 0 then (cSend σ n t h n).1 else (cSend σ n t h n).2) := by
      unfold v_send
      rw [hy, hz, nI_clamp (by omega)]
      rfl
    generalize hall : cAl σ n t h = all
    generalize hhd : (cS σ n t h (-1)).1 = hd0
    have lp : ∀ (m c : Nat) (σ1 : zSg), c + m = n → RL σ σ1 n t h → zT X d m_X6_send (zA σ τ r (v_send σ n t (nI h) z)) 0 0 53 [some (.ref 0), some (.int (nI h)), some (.int z), some (.int all), some (.int hd0), some (.int (cSend σ n t h c).2), some (.int (cSend σ n t h c).1), some (.int (nI c)), none, none] [] L0 (mm σ1 τ r) := by
      intro m
      induction m with
      | zero =>
        intro c σ1 hc s1
        have hc : c = n := by omega
        subst hc
        refine zT.step ct_X6_send_ok ?_
        refine zT.step ct_X6_send_ok ?_
        refine zT.step ct_X6_send_ok ?_
        refine And.intro ⟨by decide, _, rfl⟩ ?_
        refine zT.step ct_X6_send_ok ?_
        refine And.intro ⟨by decide, _, rfl⟩ ?_
        refine zT.step ct_X6_send_ok ?_
        refine And.intro (fun q => ?_) (fun q => ?_)
        · refine zT.step ct_X6_send_ok ?_
          refine zT.step ct_X6_send_ok ?_
          refine And.intro (fun z0 => ?_) (fun z0 => ?_)
          · have z0 : z = 0 := z0
            refine zT.step ct_X6_send_ok ?_
            refine zT.step ct_X6_send_ok ?_
            refine zT.step ct_X6_send_ok ?_
            exact zA.mk (by rw [hv, if_pos z0]) s1.1
          · have z0 : ¬ z = 0 := z0
            refine zT.step ct_X6_send_ok ?_
            refine zT.step ct_X6_send_ok ?_
            exact zA.mk (by rw [hv, if_neg z0]) s1.1
        · have q : ¬ σ1 1 2 ≤ nI c := q
          rw [(hK.se s1.1).2.1] at q
          exact absurd ((i_le rfl rfl (by omega) (by omega)).mpr (Nat.le_refl _)) q
      | succ m ih =>
        intro c σ1 hc s1
        have hc8 : c < 8 := by omega
        have own : ∀ x, x = cDu σ n t h c → zT X d m_X6_send (zA σ τ r (v_send σ n t (nI h) z)) 0 0 90 [some (.ref 0), some (.int (nI h)), some (.int z), some (.int all), some (.int hd0), some (.int (cSend σ n t h c).2), some (.int (cSend σ n t h c).1), some (.int (nI c)), none, none] [.int x] L0 (mm σ1 τ r) := by
          intro x hx
          subst hx
          refine zT.step ct_X6_send_ok ?_
          refine zT.step ct_X6_send_ok ?_
          refine zT.step ct_X6_send_ok ?_
          refine And.intro ⟨by decide, _, rfl⟩ ?_
          refine zT.step ct_X6_send_ok ?_
          refine zT.step ct_X6_send_ok ?_
          refine zT.step ct_X6_send_ok ?_
          refine And.intro ⟨by omega, by decide, _, rfl⟩ (zC.use (s_cw (by omega) hK hh s1) (fun w L2 μ2 hw => ?_))
          obtain ⟨rfl, rfl, σ', rfl, s2, h9⟩ := hw
          refine zT.step ct_X6_send_ok ?_
          refine zT.step ct_X6_send_ok ?_
          refine zT.step ct_X6_send_ok ?_
          refine zT.step ct_X6_send_ok ?_
          refine zT.step ct_X6_send_ok ?_
          refine And.intro ⟨by decide, _, rfl⟩ ?_
          refine zT.step ct_X6_send_ok ?_
          refine And.intro ⟨by omega, by decide, _, rfl⟩ (zF.use (s_dueOfAll (by omega) hK.1 (hK.se s2.1).2.1) ?_)
          have hal : f_all (σ' 1 9) (σ' 5) n = f_all (cWo σ n t h c) (cD σ t h) n := by
            rw [h9]
            exact f_all_congr n (fun i hi => (s2.2 i hi).2)
          rw [hal]
          have nx := ih (c + 1) σ' (by omega) s2
          have hsd : all - cDu σ n t h c - f_all (cWo σ n t h c) (cD σ t h) n = cSd σ n t h c := by unfold cSd; rw [hall]
          refine zT.step ct_X6_send_ok ?_
          refine zT.step ct_X6_send_ok ?_
          refine zT.step ct_X6_send_ok ?_
          refine zT.step ct_X6_send_ok ?_
          refine zT.step ct_X6_send_ok ?_
          refine And.intro (fun q2 => ?_) (fun q2 => ?_)
          · have q2 : all - cDu σ n t h c - f_all (cWo σ n t h c) (cD σ t h) n ≤ (cSend σ n t h c).2 := q2
            rw [hsd] at q2
            have e : cSend σ n t h (c + 1) = cSend σ n t h c := if_pos q2
            rw [e] at nx
            refine zT.step ct_X6_send_ok ?_
            refine zT.step ct_X6_send_ok ?_
            rw [nI_1]
            refine zT.drop 8 (zT.drop 9 ?_)
            exact nx
          · have q2 : ¬ all - cDu σ n t h c - f_all (cWo σ n t h c) (cD σ t h) n ≤ (cSend σ n t h c).2 := q2
            rw [hsd] at q2
            have e : cSend σ n t h (c + 1) = (nI c, cSd σ n t h c) := if_neg q2
            rw [e] at nx
            refine zT.step ct_X6_send_ok ?_
            refine zT.step ct_X6_send_ok ?_
            refine zT.step ct_X6_send_ok ?_
            refine zT.step ct_X6_send_ok ?_
            refine zT.step ct_X6_send_ok ?_
            refine zT.step ct_X6_send_ok ?_
            rw [nI_1]
            refine zT.drop 8 (zT.drop 9 ?_)
            show zT X d m_X6_send _ 0 0 53 [some (.ref 0), some (.int (nI h)), some (.int z), some (.int all), some (.int hd0), some (.int (all - cDu σ n t h c - f_all (cWo σ n t h c) (cD σ t h) n)), some (.int (nI c)), some (.int (nI (c + 1))), none, none] [] L0 _
            rw [hsd]
            exact nx
        refine zT.step ct_X6_send_ok ?_
        refine zT.step ct_X6_send_ok ?_
        refine zT.step ct_X6_send_ok ?_
        refine And.intro ⟨by decide, _, rfl⟩ ?_
        refine zT.step ct_X6_send_ok ?_
        refine And.intro ⟨by decide, _, rfl⟩ ?_
        refine zT.step ct_X6_send_ok ?_
        refine And.intro (fun q => ?_) (fun q => ?_)
        · have q : σ1 1 2 ≤ nI c := q
          rw [(hK.se s1.1).2.1] at q
          have := (i_le (x := nI n) (y := nI c) rfl rfl (by omega) (by omega)).mp q
          omega
        refine zT.step ct_X6_send_ok ?_
        refine zT.step ct_X6_send_ok ?_
        refine zT.step ct_X6_send_ok ?_
        refine zT.step ct_X6_send_ok ?_
        refine zT.step ct_X6_send_ok ?_
        refine zT.step ct_X6_send_ok ?_
        refine zT.step ct_X6_send_ok ?_
        refine And.intro (fun q => ?_) (fun q => ?_)
        · have q : hd0 >>> (nI c &&& 31) &&& 1 = 1 := q
          refine zT.step ct_X6_send_ok ?_
          refine zT.step ct_X6_send_ok ?_
          exact own _ (by unfold cDu f_due; rw [hhd, if_pos q])
        · have q : ¬ hd0 >>> (nI c &&& 31) &&& 1 = 1 := q
          refine zT.step ct_X6_send_ok ?_
          refine zT.step ct_X6_send_ok ?_
          refine And.intro ⟨by decide, _, rfl⟩ ?_
          refine zT.step ct_X6_send_ok ?_
          refine And.intro ⟨by decide, _, rfl⟩ ?_
          refine zT.step ct_X6_send_ok ?_
          refine zT.step ct_X6_send_ok ?_
          refine Exists.intro c (And.intro ⟨rfl, by decide, 8, rfl, hc8, by decide⟩ ?_)
          exact own _ (by unfold cDu f_due; rw [hhd, if_neg q]; exact (s1.2 c (by omega)).2)
    refine zT.step ct_X6_send_ok ?_
    refine zT.step ct_X6_send_ok ?_
    refine And.intro ⟨by decide, _, rfl⟩ ?_
    refine zT.step ct_X6_send_ok ?_
    refine zT.step ct_X6_send_ok ?_
    refine And.intro ⟨by omega, by decide, _, rfl⟩ (zC.use (s_lookK (by omega) hK hh) (fun w L2 μ2 hw => ?_))
    obtain ⟨rfl, rfl, σ', rfl, H⟩ := hw
    refine zT.step ct_X6_send_ok ?_
    refine zT.step ct_X6_send_ok ?_
    refine And.intro ⟨by decide, _, rfl⟩ ?_
    refine zT.step ct_X6_send_ok ?_
    refine And.intro ⟨by omega, by decide, _, rfl⟩ (zF.use (s_dueOfAll (by omega) hK.1 (hK.se H.se).2.1) ?_)
    rw [H.all, hall]
    refine zT.step ct_X6_send_ok ?_
    refine zT.step ct_X6_send_ok ?_
    refine zT.step ct_X6_send_ok ?_
    refine And.intro ⟨by decide, _, rfl⟩ ?_
    refine zT.step ct_X6_send_ok ?_
    refine And.intro ⟨by decide, _, rfl⟩ ?_
    refine zT.step ct_X6_send_ok ?_
    refine zT.step ct_X6_send_ok ?_
    refine zT.step ct_X6_send_ok ?_
    refine zT.step ct_X6_send_ok ?_
    refine zT.step ct_X6_send_ok ?_
    refine zT.step ct_X6_send_ok ?_
    refine zT.step ct_X6_send_ok ?_
    have h9 : σ' 1 9 = hd0 := by rw [H.2.2.2.1, hhd]
    have nx := lp n 0 σ' (by omega) ⟨H.se, H.2.2.1⟩
    rw [← h9] at nx
    exact nx
  · have q : ¬ z ≤ nI 1 := q
    exact bad (by rw [hy, rg_ge (Int32.not_lt.mp (fun z => q ((le_lt (by omega)).mpr z)))]; rfl)
