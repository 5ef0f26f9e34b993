/-! Square.cast, castWithout, look -/
def f_mo (h : Nat) : Int32 := if h < 6 then 1 else 0
def g_sw (n : Nat) (th : Nat → Nat → Int32) (lg : Nat → Int32) (h : Nat) (aw : Int32) : Int32 × Int32 × Int32 := f_co n (f_occ (fun i => th i 3) n) th lg (f_mo h) aw 30 0 (0, 0, 0)
theorem s_cast {X : zXs} {d n h : Nat} {σ : zSg} {τ : Nat → Nat → Int64} {r : Option Nat} (hd : 3 ≤ d) (hn : n ≤ 8) (hm : σ 1 2 = nI n) (hh : h < 13) : zF X d m_X4_cast [.ref 1, .int (nI h)] L0 (mm σ τ r) none (mm (z_hs σ (g_sw n (fun i => σ (8 + i)) (σ 4) h (σ 1 11)).1 (g_sw n (fun i => σ (8 + i)) (σ 4) h (σ 1 11)).2.1) τ r) := by
  have lp : ∀ (m k : Nat) (s : Int32 × Int32 × Int32), k + m = 30 → f_co n (f_occ (fun i => σ (8 + i) 3) n) (fun i => σ (8 + i)) (σ 4) (f_mo h) (σ 1 11) m k s = g_sw n (fun i => σ (8 + i)) (σ 4) h (σ 1 11) → zT X d m_X4_cast (fun w L2 μ2 => w = none ∧ L2 = L0 ∧ μ2 = mm (z_hs σ (g_sw n (fun i => σ (8 + i)) (σ 4) h (σ 1 11)).1 (g_sw n (fun i => σ (8 + i)) (σ 4) h (σ 1 11)).2.1) τ r) 0 0 33 [some (.ref 1), some (.int (nI h)), some (.int s.2.2), some (.int (f_occ (fun i => σ (8 + i) 3) n)), some (.int (f_mo h)), some (.int (nI k)), none, none, none, none] [] L0 (mm (z_hs σ s.1 s.2.1) τ r) := by
    intro m
    induction m with
    | zero =>
      intro k s hk hF
      have hF : s = g_sw n (fun i => σ (8 + i)) (σ 4) h (σ 1 11) := hF
      refine zT.step ct_X4_cast_ok ?_
      refine zT.step ct_X4_cast_ok ?_
      refine zT.step ct_X4_cast_ok ?_
      refine And.intro (fun q => ?_) (fun q => ?_)
      · refine zT.step ct_X4_cast_ok ?_
        rw [hF]
        exact And.intro rfl (And.intro rfl rfl)
      · have q : ¬ 30 ≤ nI k := q
        exact absurd ((i_le (x := 30) (a := 30) (y := nI k) rfl rfl (by omega) (by omega)).mpr (by omega)) q
    | succ m ih =>
      intro k s hk hF
      have hF : f_co n (f_occ (fun i => σ (8 + i) 3) n) (fun i => σ (8 + i)) (σ 4) (f_mo h) (σ 1 11) m (k + 1) (f_ck n (f_occ (fun i => σ (8 + i) 3) n) (fun i => σ (8 + i)) (σ 4) (f_mo h) (σ 1 11) k s) = g_sw n (fun i => σ (8 + i)) (σ 4) h (σ 1 11) := hF
      have back : ∀ s', s' = f_ck n (f_occ (fun i => σ (8 + i) 3) n) (fun i => σ (8 + i)) (σ 4) (f_mo h) (σ 1 11) k s → zT X d m_X4_cast (fun w L2 μ2 => w = none ∧ L2 = L0 ∧ μ2 = mm (z_hs σ (g_sw n (fun i => σ (8 + i)) (σ 4) h (σ 1 11)).1 (g_sw n (fun i => σ (8 + i)) (σ 4) h (σ 1 11)).2.1) τ r) 0 0 191 [some (.ref 1), some (.int (nI h)), some (.int s'.2.2), some (.int (f_occ (fun i => σ (8 + i) 3) n)), some (.int (f_mo h)), some (.int (nI k)), none, none, none, none] [] L0 (mm (z_hs σ s'.1 s'.2.1) τ r) := by
        intro s' hs'
        refine zT.step ct_X4_cast_ok ?_
        refine zT.step ct_X4_cast_ok ?_
        rw [nI_1]
        exact ih (k + 1) s' (by omega) (by rw [hs']; exact hF)
      have cell : zT X d m_X4_cast (fun w L2 μ2 => w = none ∧ L2 = L0 ∧ μ2 = mm (z_hs σ (g_sw n (fun i => σ (8 + i)) (σ 4) h (σ 1 11)).1 (g_sw n (fun i => σ (8 + i)) (σ 4) h (σ 1 11)).2.1) τ r) 0 0 57 [some (.ref 1), some (.int (nI h)), some (.int s.2.2), some (.int (f_occ (fun i => σ (8 + i) 3) n)), some (.int (f_mo h)), some (.int (nI k)), some (.int (f_at (f_mo h) k)), none, none, none] [] L0 (mm (z_hs σ s.1 s.2.1) τ r) := by
        generalize hat : f_at (f_mo h) k = at_
        refine zT.step ct_X4_cast_ok ?_
        refine zT.step ct_X4_cast_ok ?_
        refine zT.step ct_X4_cast_ok ?_
        refine zT.step ct_X4_cast_ok ?_
        refine zT.step ct_X4_cast_ok ?_
        refine zT.step ct_X4_cast_ok ?_
        refine And.intro (fun q => ?_) (fun q => ?_)
        · have q : f_occ (fun i => σ (8 + i) 3) n >>> (at_ &&& 31) &&& 1 = 0 := q
          refine zT.step ct_X4_cast_ok ?_
          refine zT.drop 6 ?_
          exact back s (by unfold f_ck; rw [hat, if_pos q])
        · have q : ¬ f_occ (fun i => σ (8 + i) 3) n >>> (at_ &&& 31) &&& 1 = 0 := q
          have inn : ∀ cv : Bool, cv = decide (s.2.2 >>> (at_ &&& 31) &&& 1 = 1) → zT X d m_X4_cast (fun w L2 μ2 => w = none ∧ L2 = L0 ∧ μ2 = mm (z_hs σ (g_sw n (fun i => σ (8 + i)) (σ 4) h (σ 1 11)).1 (g_sw n (fun i => σ (8 + i)) (σ 4) h (σ 1 11)).2.1) τ r) 0 0 84 [some (.ref 1), some (.int (nI h)), some (.int s.2.2), some (.int (f_occ (fun i => σ (8 + i) 3) n)), some (.int (f_mo h)), some (.int (nI k)), some (.int at_), none, none, none] [.int (f_b cv)] L0 (mm (z_hs σ s.1 s.2.1) τ r) := by
            intro cv hcv
            refine zT.step ct_X4_cast_ok ?_
            refine zT.step ct_X4_cast_ok ?_
            refine zT.step ct_X4_cast_ok ?_
            exact s_cast_in hd hn hm n 0 s none (by omega) (fun s' hs' => back s' (by rw [hs']; unfold f_ck; rw [hat, if_neg q, hcv]))
          refine zT.step ct_X4_cast_ok ?_
          refine zT.step ct_X4_cast_ok ?_
          refine zT.step ct_X4_cast_ok ?_
          refine zT.step ct_X4_cast_ok ?_
          refine zT.step ct_X4_cast_ok ?_
          refine zT.step ct_X4_cast_ok ?_
          refine zT.step ct_X4_cast_ok ?_
          refine And.intro (fun q2 => ?_) (fun q2 => ?_)
          · refine zT.step ct_X4_cast_ok ?_
            refine zT.step ct_X4_cast_ok ?_
            exact inn true (decide_eq_true q2).symm
          · refine zT.step ct_X4_cast_ok ?_
            exact inn false (decide_eq_false q2).symm
      refine zT.step ct_X4_cast_ok ?_
      refine zT.step ct_X4_cast_ok ?_
      refine zT.step ct_X4_cast_ok ?_
      refine And.intro (fun q => ?_) (fun q => ?_)
      · have q : 30 ≤ nI k := q
        have := (i_le (x := 30) (a := 30) (y := nI k) rfl rfl (by omega) (by omega)).mp q
        omega
      refine zT.step ct_X4_cast_ok ?_
      refine zT.step ct_X4_cast_ok ?_
      refine And.intro (fun q2 => ?_) (fun q2 => ?_)
      · have q2 : f_mo h = 0 := q2
        refine zT.step ct_X4_cast_ok ?_
        refine zT.step ct_X4_cast_ok ?_
        have e : f_at (f_mo h) k = nI k := by unfold f_at; rw [if_pos q2]
        rw [e] at cell
        exact cell
      · have q2 : ¬ f_mo h = 0 := q2
        refine zT.step ct_X4_cast_ok ?_
        refine zT.step ct_X4_cast_ok ?_
        refine zT.step ct_X4_cast_ok ?_
        refine zT.step ct_X4_cast_ok ?_
        refine zT.step ct_X4_cast_ok ?_
        have e : f_at (f_mo h) k = 29 - nI k := by unfold f_at; rw [if_neg q2]
        rw [e] at cell
        exact cell
  have occ : (fun i => z_hs σ 0 0 (8 + i) 3) = (fun i => σ (8 + i) 3) := by funext i; rw [z_hs_o _ _ _ _ (by omega)]
  refine zF.of mk_X4_cast rfl ?_
  refine zT.step ct_X4_cast_ok ?_
  refine zT.step ct_X4_cast_ok ?_
  refine zT.step ct_X4_cast_ok ?_
  refine And.intro ⟨by decide, _, rfl⟩ ?_
  refine zT.step ct_X4_cast_ok ?_
  refine zT.step ct_X4_cast_ok ?_
  refine zT.step ct_X4_cast_ok ?_
  refine And.intro ⟨by decide, _, rfl⟩ ?_
  refine zT.step ct_X4_cast_ok ?_
  refine zT.step ct_X4_cast_ok ?_
  refine zT.step ct_X4_cast_ok ?_
  refine zT.step ct_X4_cast_ok ?_
  refine And.intro ⟨by omega, by decide, _, rfl⟩ (zF.use (s_occupied (σ := z_hs σ 0 0) hn hm) ?_)
  rw [occ]
  refine zT.step ct_X4_cast_ok ?_
  refine zT.step ct_X4_cast_ok ?_
  refine zT.step ct_X4_cast_ok ?_
  refine zT.step ct_X4_cast_ok ?_
  refine And.intro (fun q => ?_) (fun q => ?_)
  · have q : 6 ≤ nI h := q
    have q := (i_le (x := 6) (a := 6) (y := nI h) rfl rfl (by omega) (by omega)).mp q
    refine zT.step ct_X4_cast_ok ?_
    refine zT.step ct_X4_cast_ok ?_
    refine zT.step ct_X4_cast_ok ?_
    refine zT.step ct_X4_cast_ok ?_
    have := lp 30 0 (0, 0, 0) rfl rfl
    rw [show f_mo h = 0 by unfold f_mo; rw [if_neg (by omega)]] at this
    exact this
  · have q : ¬ 6 ≤ nI h := q
    have q : h < 6 := i_ge (x := nI h) (y := 6) (b := 6) rfl rfl (by omega) (by omega) q
    refine zT.step ct_X4_cast_ok ?_
    refine zT.step ct_X4_cast_ok ?_
    refine zT.step ct_X4_cast_ok ?_
    refine zT.step ct_X4_cast_ok ?_
    refine zT.step ct_X4_cast_ok ?_
    have := lp 30 0 (0, 0, 0) rfl rfl
    rw [show f_mo h = 1 by unfold f_mo; rw [if_pos q]] at this
    exact this
