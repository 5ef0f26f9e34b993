/-! told, set, image, back, count, feed, force -/
def v_read (th : Nat → Int32) (w : Nat) : Int32 := if w = 2 then th 1 else if w = 3 then th 2 else if w = 4 then th 3 else if w = 5 then th 0 else if th 0 = 3 then 0 else 1
theorem s_read {X : zXs} {d a w : Nat} {L : List zSh} {μ : zMem} (hd : 1 ≤ d) (h2 : 2 ≤ w) (h7 : w < 7) (ha : a < 1000000 ∧ ∃ w, L[a]? = some (5, w)) : zF X d m_X5_read [.ref a, .int (nI w)] L μ (some (.int (v_read (μ.1 a) w))) μ := by
  have : w = 2 ∨ w = 3 ∨ w = 4 ∨ w = 5 ∨ w = 6 := by omega
  rcases this with rfl | rfl | rfl | rfl | rfl
  · exact s_readT (Or.inr (Or.inl ⟨rfl, rfl, rfl, rfl⟩)) ha
  · exact s_readT (Or.inr (Or.inr (Or.inl ⟨rfl, rfl, rfl, rfl⟩))) ha
  · exact s_readT (Or.inr (Or.inr (Or.inr ⟨rfl, rfl, rfl, rfl⟩))) ha
  · exact s_readT (Or.inl ⟨rfl, rfl, rfl, rfl⟩) ha
  · refine zF.of mk_X5_read rfl ?_
    refine zT.step ct_X5_read_ok ?_
    refine zT.step ct_X5_read_ok ?_
    refine z_tout (K := fun t => zT _ _ _ _ _ _ t _ _ _ _) (fun j hj => ?_) ?_
    · have hj : j < 4 := hj
      show ¬ (6 : Int) = 2 + (j : Int)
      omega
    refine zT.step ct_X5_read_ok ?_
    refine zT.step ct_X5_read_ok ?_
    refine And.intro ⟨by omega, ha⟩ (zF.use (s_hides ha) ?_)
    refine zT.step ct_X5_read_ok ?_
    refine And.intro (fun q => ?_) (fun q => ?_)
    · have q : ¬ ¬ μ.1 a 0 = 3 := of_decide_eq_false (fb0 q)
      refine zT.step ct_X5_read_ok ?_
      refine zT.step ct_X5_read_ok ?_
      exact And.intro (by unfold v_read; rw [if_neg (by decide), if_neg (by decide), if_neg (by decide), if_neg (by decide), if_pos (Classical.not_not.mp q)]) (And.intro rfl rfl)
    · have q : ¬ μ.1 a 0 = 3 := of_decide_eq_true (fb1 q)
      refine zT.step ct_X5_read_ok ?_
      refine zT.step ct_X5_read_ok ?_
      refine zT.step ct_X5_read_ok ?_
      exact And.intro (by unfold v_read; rw [if_neg (by decide), if_neg (by decide), if_neg (by decide), if_neg (by decide), if_neg q]) (And.intro rfl rfl)
def v_tl (σ : zSg) (w i : Nat) : Int32 := if w = 0 then σ 1 5 else if w = 1 then σ 1 6 else v_read (σ (8 + i)) w
theorem s_tell {X : zXs} {d n t w : Nat} {σ : zSg} {τ : Nat → Nat → Int64} {r : Option Nat} {x : Int32} (hd : 2 ≤ d) (hK : CK σ n t) (hw : w < 7) (hx : 2 ≤ w → rg x n = true) : zF X d m_X4_tell [.ref 1, .int (nI w), .int x] L0 (mm σ τ r) (some (.int (v_tl σ w x.toNatClampNeg))) (mm σ τ r) := by
  refine zF.of mk_X4_tell rfl ?_
  refine zT.step ct_X4_tell_ok ?_
  refine zT.step ct_X4_tell_ok ?_
  refine And.intro (fun q => ?_) (fun q => ?_)
  · have q : w = 0 := (i_eq (x := nI w) (y := 0) (b := 0) rfl rfl (by omega) (by omega)).mp q
    refine zT.step ct_X4_tell_ok ?_
    refine zT.step ct_X4_tell_ok ?_
    refine And.intro ⟨by decide, _, rfl⟩ ?_
    refine zT.step ct_X4_tell_ok ?_
    exact And.intro (by unfold v_tl; rw [if_pos q]; rfl) (And.intro rfl rfl)
  have q0 : ¬ w = 0 := fun z => q ((i_eq (x := nI w) (y := 0) (b := 0) rfl rfl (by omega) (by omega)).mpr z)
  refine zT.step ct_X4_tell_ok ?_
  refine zT.step ct_X4_tell_ok ?_
  refine zT.step ct_X4_tell_ok ?_
  refine And.intro (fun q => ?_) (fun q => ?_)
  · have q : w = 1 := (i_eq (x := nI w) (y := 1) (b := 1) rfl rfl (by omega) (by omega)).mp q
    refine zT.step ct_X4_tell_ok ?_
    refine zT.step ct_X4_tell_ok ?_
    refine And.intro ⟨by decide, _, rfl⟩ ?_
    refine zT.step ct_X4_tell_ok ?_
    exact And.intro (by unfold v_tl; rw [if_neg q0, if_pos q]; rfl) (And.intro rfl rfl)
  have q1 : ¬ w = 1 := fun z => q ((i_eq (x := nI w) (y := 1) (b := 1) rfl rfl (by omega) (by omega)).mpr z)
  have hx := hx (by omega)
  refine zT.step ct_X4_tell_ok ?_
  refine zT.step ct_X4_tell_ok ?_
  refine zT.step ct_X4_tell_ok ?_
  refine And.intro ⟨by omega, by decide, _, rfl⟩ (zF.use (s_hasK hK) ?_)
  rw [hx]
  have hn8 := hK.1
  obtain ⟨i, hi, rfl⟩ := rg_t (by omega) hx
  refine zT.step ct_X4_tell_ok ?_
  refine And.intro (fun q => absurd q (by decide)) (fun q => ?_)
  refine zT.step ct_X4_tell_ok ?_
  refine zT.step ct_X4_tell_ok ?_
  refine And.intro ⟨by decide, _, rfl⟩ ?_
  refine zT.step ct_X4_tell_ok ?_
  refine zT.step ct_X4_tell_ok ?_
  refine Exists.intro i (And.intro ⟨rfl, by decide, 8, rfl, by omega, by decide⟩ ?_)
  refine zT.step ct_X4_tell_ok ?_
  refine zT.step ct_X4_tell_ok ?_
  refine And.intro ⟨by omega, L0_thing (by omega)⟩ (zF.use (s_read (by omega) (by omega) hw (L0_thing (by omega))) ?_)
  refine zT.step ct_X4_tell_ok ?_
  refine zT.step ct_X4_tell_ok ?_
  exact And.intro (by unfold v_tl; rw [if_neg q0, if_neg q1, nI_clamp (by omega)]; rfl) (And.intro rfl rfl)
def v_told (σ : zSg) (n : Nat) (x w : Int32) : Int32 := bif rg w 7 && (decide (w < 2) || rg x n) then v_tl σ w.toNatClampNeg x.toNatClampNeg else -2
theorem s_told {X : zXs} {d n t : Nat} {σ : zSg} {τ : Nat → Nat → Int64} {r : Option Nat} {x w : Int32} (hd : 3 ≤ d) (hK : CK σ n t) : zF X d m_X6_told [.ref 0, .int x, .int w] L0 (mm σ τ r) (some (.int (v_told σ n x w))) (mm σ τ r) := by
  have bad : rg w 7 = false → zT X d m_X6_told (fun u L2 μ2 => u = some (.int (v_told σ n x w)) ∧ L2 = L0 ∧ μ2 = mm σ τ r) 0 0 10 [some (.ref 0), some (.int x), some (.int w)] [] L0 (mm σ τ r) := by
    intro h
    refine zT.step ct_X6_told_ok ?_
    refine zT.step ct_X6_told_ok ?_
    exact And.intro (by unfold v_told; rw [h]; rfl) (And.intro rfl rfl)
  have ok : rg w 7 = true → (decide (w < 2) || rg x n) = true → zT X d m_X6_told (fun u L2 μ2 => u = some (.int (v_told σ n x w)) ∧ L2 = L0 ∧ μ2 = mm σ τ r) 0 0 32 [some (.ref 0), some (.int x), some (.int w)] [] L0 (mm σ τ r) := by
    intro h h2
    have hv : v_told σ n x w = v_tl σ w.toNatClampNeg x.toNatClampNeg := by unfold v_told; rw [h, h2]; rfl
    rw [hv]
    obtain ⟨j, hj, rfl⟩ := rg_t (by omega) h
    rw [nI_clamp (by omega)]
    refine zT.step ct_X6_told_ok ?_
    refine zT.step ct_X6_told_ok ?_
    refine And.intro ⟨by decide, _, rfl⟩ ?_
    refine zT.step ct_X6_told_ok ?_
    refine zT.step ct_X6_told_ok ?_
    refine zT.step ct_X6_told_ok ?_
    refine And.intro ⟨by omega, by decide, _, rfl⟩ (zF.use (s_tell (by omega) hK hj (fun z => ?_)) ?_)
    · have : decide (nI j < 2) = false := decide_eq_false (fun y => by have := (i_lt (x := nI j) (y := 2) (b := 2) rfl rfl (by omega) (by omega)).mp y; omega)
      rw [this] at h2
      exact h2
    refine zT.step ct_X6_told_ok ?_
    exact And.intro rfl (And.intro rfl rfl)
  refine zF.of mk_X6_told rfl ?_
  refine zT.step ct_X6_told_ok ?_
  refine zT.step ct_X6_told_ok ?_
  refine And.intro (fun q => bad (rg_neg q)) (fun q1 => ?_)
  refine zT.step ct_X6_told_ok ?_
  refine zT.step ct_X6_told_ok ?_
  refine zT.step ct_X6_told_ok ?_
  refine And.intro (fun q2 => ?_) (fun q2 => bad (rg_ge (Int32.not_lt.mp (fun z => q2 ((le_lt (m := 6) (by omega)).mpr z)))))
  have hw : rg w 7 = true := rg_in q1 ((le_lt (m := 6) (by omega)).mp q2)
  refine zT.step ct_X6_told_ok ?_
  refine zT.step ct_X6_told_ok ?_
  refine zT.step ct_X6_told_ok ?_
  refine And.intro (fun q => ok hw (by rw [decide_eq_true (show w < 2 from q)]; rfl)) (fun q3 => ?_)
  refine zT.step ct_X6_told_ok ?_
  refine zT.step ct_X6_told_ok ?_
  refine And.intro ⟨by decide, _, rfl⟩ ?_
  refine zT.step ct_X6_told_ok ?_
  refine zT.step ct_X6_told_ok ?_
  refine And.intro ⟨by omega, by decide, _, rfl⟩ (zF.use (s_hasK hK) ?_)
  refine zT.step ct_X6_told_ok ?_
  refine And.intro (fun q => ?_) (fun q => ok hw (by rw [fb1 q, Bool.or_true]))
  refine zT.step ct_X6_told_ok ?_
  refine zT.step ct_X6_told_ok ?_
  exact And.intro (by unfold v_told; rw [fb0 q, decide_eq_false (show ¬ w < 2 from q3), hw]; rfl) (And.intro rfl rfl)
def u_put (σ : zSg) (w i : Nat) (v : Int32) : zSg := if w = 0 then z_up σ 1 5 v else if w = 1 then z_up σ 1 6 v else mv σ i (w - 1) v
theorem s_put {X : zXs} {d n t w : Nat} {σ : zSg} {τ : Nat → Nat → Int64} {r : Option Nat} {x v : Int32} (hd : 2 ≤ d) (hK : CK σ n t) (hw : w < 5) (hx : 2 ≤ w → rg x n = true) : zF X d m_X4_put [.ref 1, .int (nI w), .int x, .int v] L0 (mm σ τ r) none (mm (u_put σ w x.toNatClampNeg v) τ r) := by
  refine zF.of mk_X4_put rfl ?_
  refine zT.step ct_X4_put_ok ?_
  refine zT.step ct_X4_put_ok ?_
  refine And.intro (fun q => ?_) (fun q => ?_)
  · have q : w = 0 := (i_eq (x := nI w) (y := 0) (b := 0) rfl rfl (by omega) (by omega)).mp q
    refine zT.step ct_X4_put_ok ?_
    refine zT.step ct_X4_put_ok ?_
    refine zT.step ct_X4_put_ok ?_
    refine And.intro ⟨by decide, _, rfl⟩ ?_
    refine zT.step ct_X4_put_ok ?_
    refine zT.step ct_X4_put_ok ?_
    exact And.intro rfl (And.intro rfl (by unfold u_put; rw [if_pos q]; rfl))
  have q0 : ¬ w = 0 := fun z => q ((i_eq (x := nI w) (y := 0) (b := 0) rfl rfl (by omega) (by omega)).mpr z)
  refine zT.step ct_X4_put_ok ?_
  refine zT.step ct_X4_put_ok ?_
  refine zT.step ct_X4_put_ok ?_
  refine And.intro (fun q => ?_) (fun q => ?_)
  · have q : w = 1 := (i_eq (x := nI w) (y := 1) (b := 1) rfl rfl (by omega) (by omega)).mp q
    refine zT.step ct_X4_put_ok ?_
    refine zT.step ct_X4_put_ok ?_
    refine zT.step ct_X4_put_ok ?_
    refine And.intro ⟨by decide, _, rfl⟩ ?_
    refine zT.step ct_X4_put_ok ?_
    refine zT.step ct_X4_put_ok ?_
    exact And.intro rfl (And.intro rfl (by unfold u_put; rw [if_neg q0, if_pos q]; rfl))
  have q1 : ¬ w = 1 := fun z => q ((i_eq (x := nI w) (y := 1) (b := 1) rfl rfl (by omega) (by omega)).mpr z)
  have hx := hx (by omega)
  refine zT.step ct_X4_put_ok ?_
  refine zT.step ct_X4_put_ok ?_
  refine zT.step ct_X4_put_ok ?_
  refine And.intro ⟨by omega, by decide, _, rfl⟩ (zF.use (s_hasK hK) ?_)
  rw [hx]
  have hn8 := hK.1
  obtain ⟨i, hi, rfl⟩ := rg_t (by omega) hx
  have hwk : ∃ lo hi, z_wk w (w - 1) lo hi := by
    have : w = 2 ∨ w = 3 ∨ w = 4 := by omega
    rcases this with rfl | rfl | rfl
    · exact ⟨0, 9, Or.inr (Or.inl ⟨rfl, rfl, rfl, rfl⟩)⟩
    · exact ⟨1, 20, Or.inr (Or.inr (Or.inl ⟨rfl, rfl, rfl, rfl⟩))⟩
    · exact ⟨0, 29, Or.inr (Or.inr (Or.inr ⟨rfl, rfl, rfl, rfl⟩))⟩
  obtain ⟨lo, hi', hwk⟩ := hwk
  refine zT.step ct_X4_put_ok ?_
  refine And.intro (fun q => absurd q (by decide)) (fun q => ?_)
  refine zT.step ct_X4_put_ok ?_
  refine zT.step ct_X4_put_ok ?_
  refine And.intro ⟨by decide, _, rfl⟩ ?_
  refine zT.step ct_X4_put_ok ?_
  refine zT.step ct_X4_put_ok ?_
  refine Exists.intro i (And.intro ⟨rfl, by decide, 8, rfl, by omega, by decide⟩ ?_)
  refine zT.step ct_X4_put_ok ?_
  refine zT.step ct_X4_put_ok ?_
  refine zT.step ct_X4_put_ok ?_
  refine And.intro ⟨by omega, L0_thing (by omega)⟩ (zF.use (s_writeT hwk (L0_thing (by omega))) ?_)
  refine zT.step ct_X4_put_ok ?_
  exact And.intro rfl (And.intro rfl (by unfold u_put; rw [if_neg q0, if_neg q1, nI_clamp (by omega)]; rfl))
def k_set (n : Nat) (w x v : Int32) : Bool := rg w 5 && f_fit (lwO w.toNatClampNeg) (hiO w.toNatClampNeg) v && (decide (w < 2) || rg x n)
def v_set (σ : zSg) (n : Nat) (w x v : Int32) : Int32 := bif k_set n w x v then v_tl σ w.toNatClampNeg x.toNatClampNeg else -2
def u_set (σ : zSg) (n : Nat) (w x v : Int32) : zSg := bif k_set n w x v then u_put σ w.toNatClampNeg x.toNatClampNeg v else σ
theorem s_set {X : zXs} {d n t : Nat} {σ : zSg} {τ : Nat → Nat → Int64} {r : Option Nat} {x w v : Int32} (hd : 3 ≤ d) (hK : CK σ n t) : zF X d m_X6_set [.ref 0, .int w, .int x, .int v] L0 (mm σ τ r) (some (.int (v_set σ n w x v))) (mm (u_set σ n w x v) τ r) := by
  have bad : k_set n w x v = false → zT X d m_X6_set (fun u L2 μ2 => u = some (.int (v_set σ n w x v)) ∧ L2 = L0 ∧ μ2 = mm (u_set σ n w x v) τ r) 0 0 17 [some (.ref 0), some (.int w), some (.int x), some (.int v), none] [] L0 (mm σ τ r) := by
    intro h
    refine zT.step ct_X6_set_ok ?_
    refine zT.step ct_X6_set_ok ?_
    exact And.intro (by unfold v_set; rw [h]; rfl) (And.intro rfl (by unfold u_set; rw [h]; rfl))
  have ok : k_set n w x v = true → zT X d m_X6_set (fun u L2 μ2 => u = some (.int (v_set σ n w x v)) ∧ L2 = L0 ∧ μ2 = mm (u_set σ n w x v) τ r) 0 0 39 [some (.ref 0), some (.int w), some (.int x), some (.int v), none] [] L0 (mm σ τ r) := by
    intro h
    have hv : v_set σ n w x v = v_tl σ w.toNatClampNeg x.toNatClampNeg := by unfold v_set; rw [h]; rfl
    have hu : u_set σ n w x v = u_put σ w.toNatClampNeg x.toNatClampNeg v := by unfold u_set; rw [h]; rfl
    rw [hv, hu]
    unfold k_set at h
    rw [Bool.and_eq_true, Bool.and_eq_true] at h
    obtain ⟨⟨h, -⟩, h2⟩ := h
    obtain ⟨j, hj, rfl⟩ := rg_t (by omega) h
    rw [nI_clamp (by omega)]
    have hx : 2 ≤ j → rg x n = true := by
      intro z
      have : decide (nI j < 2) = false := decide_eq_false (fun y => by have := (i_lt (x := nI j) (y := 2) (b := 2) rfl rfl (by omega) (by omega)).mp y; omega)
      rw [this] at h2
      exact h2
    refine zT.step ct_X6_set_ok ?_
    refine zT.step ct_X6_set_ok ?_
    refine And.intro ⟨by decide, _, rfl⟩ ?_
    refine zT.step ct_X6_set_ok ?_
    refine zT.step ct_X6_set_ok ?_
    refine zT.step ct_X6_set_ok ?_
    refine And.intro ⟨by omega, by decide, _, rfl⟩ (zF.use (s_tell (by omega) hK (by omega) hx) ?_)
    refine zT.step ct_X6_set_ok ?_
    refine zT.step ct_X6_set_ok ?_
    refine zT.step ct_X6_set_ok ?_
    refine And.intro ⟨by decide, _, rfl⟩ ?_
    refine zT.step ct_X6_set_ok ?_
    refine zT.step ct_X6_set_ok ?_
    refine zT.step ct_X6_set_ok ?_
    refine zT.step ct_X6_set_ok ?_
    refine And.intro ⟨by omega, by decide, _, rfl⟩ (zF.use (s_put (by omega) hK hj hx) ?_)
    refine zT.step ct_X6_set_ok ?_
    refine zT.step ct_X6_set_ok ?_
    exact And.intro rfl (And.intro rfl rfl)
  refine zF.of mk_X6_set rfl ?_
  refine zT.step ct_X6_set_ok ?_
  refine zT.step ct_X6_set_ok ?_
  refine And.intro (fun q => bad (by unfold k_set; rw [rg_neg q]; rfl)) (fun q1 => ?_)
  refine zT.step ct_X6_set_ok ?_
  refine zT.step ct_X6_set_ok ?_
  refine zT.step ct_X6_set_ok ?_
  refine And.intro (fun q => bad (by unfold k_set; rw [rg_ge (Int32.not_lt.mp (fun z => absurd q (Int32.not_lt.mpr ((le_lt (m := 4) (by omega)).mpr z))))]; rfl)) (fun q2 => ?_)
  have hw : rg w 5 = true := rg_in q1 ((le_lt (m := 4) (by omega)).mp (Int32.not_lt.mp q2))
  obtain ⟨j, hj, rfl⟩ := rg_t (by omega) hw
  refine zT.step ct_X6_set_ok ?_
  refine zT.step ct_X6_set_ok ?_
  refine zT.step ct_X6_set_ok ?_
  refine And.intro (by omega) (zF.use (s_fits (w := j) (by omega)) ?_)
  refine zT.step ct_X6_set_ok ?_
  refine And.intro (fun q => bad (by unfold k_set; rw [hw, nI_clamp (by omega), fb0 q]; rfl)) (fun q => ?_)
  have hf := fb1 q
  refine zT.step ct_X6_set_ok ?_
  refine zT.step ct_X6_set_ok ?_
  refine zT.step ct_X6_set_ok ?_
  refine And.intro (fun q => ok (by unfold k_set; rw [hw, nI_clamp (by omega), hf, decide_eq_true (show nI j < 2 from q)]; rfl)) (fun q3 => ?_)
  refine zT.step ct_X6_set_ok ?_
  refine zT.step ct_X6_set_ok ?_
  refine And.intro ⟨by decide, _, rfl⟩ ?_
  refine zT.step ct_X6_set_ok ?_
  refine zT.step ct_X6_set_ok ?_
  refine And.intro ⟨by omega, by decide, _, rfl⟩ (zF.use (s_hasK hK) ?_)
  refine zT.step ct_X6_set_ok ?_
  refine And.intro (fun q => ?_) (fun q => ok (by unfold k_set; rw [hw, nI_clamp (by omega), hf, fb1 q, Bool.or_true]; rfl))
  have hk : k_set n (nI j) x v = false := by unfold k_set; rw [hw, nI_clamp (by omega), hf, fb0 q, decide_eq_false (show ¬ nI j < 2 from q3)]; rfl
  refine zT.step ct_X6_set_ok ?_
  refine zT.step ct_X6_set_ok ?_
  exact And.intro (by unfold v_set; rw [hk]; rfl) (And.intro rfl (by unfold u_set; rw [hk]; rfl))
/-- the image's cells behind the first j things -/
def u_kp (σ : zSg) (j : Nat) : zSg := fun c k => if c = 36 then (if k = 0 then 1 else if k = 1 then σ 1 2 else if k = 2 then σ 1 4 else if k = 3 then σ 1 5 else if k = 4 then σ 1 6 else σ 36 k) else if c = 37 ∧ k < j then σ (8 + k) 1 else if c = 38 ∧ k < j then σ (8 + k) 2 else if c = 39 ∧ k < j then σ (8 + k) 3 else σ c k
theorem u_kp_s (σ : zSg) (j : Nat) : z_up (z_up (z_up (u_kp σ j) 37 j (σ (8 + j) 1)) 38 j (σ (8 + j) 2)) 39 j (σ (8 + j) 3) = u_kp σ (j + 1) := by
  funext c k
  unfold z_up u_kp
  by_cases h : k = j
  · subst h
    by_cases h37 : c = 37
    · subst h37; simp
    · by_cases h38 : c = 38
      · subst h38; simp
      · by_cases h39 : c = 39
        · subst h39; simp
        · simp [h37, h38, h39]
  · have e : (k < j + 1) = (k < j) := by rw [eq_iff_iff]; omega
    simp [h, e]
theorem u_kp_0 (σ : zSg) : z_up (z_up (z_up (z_up (z_up σ 36 0 1) 36 1 (σ 1 2)) 36 2 (σ 1 4)) 36 3 (σ 1 5)) 36 4 (σ 1 6) = u_kp σ 0 := by
  funext c k
  unfold z_up u_kp
  by_cases h : c = 36
  · subst h
    by_cases h4 : k = 4
    · subst h4; simp
    by_cases h3 : k = 3
    · subst h3; simp
    by_cases h2 : k = 2
    · subst h2; simp
    by_cases h1 : k = 1
    · subst h1; simp
    by_cases h0 : k = 0
    · subst h0; simp
    simp [h0, h1, h2, h3, h4]
  · simp [h]
theorem u_kp_o (σ : zSg) (j c : Nat) (h : c < 36) : u_kp σ j c = σ c := by
  funext k
  unfold u_kp
  rw [if_neg (by omega), if_neg (by omega), if_neg (by omega), if_neg (by omega)]
theorem s_keep {X : zXs} {d n : Nat} {σ : zSg} {τ : Nat → Nat → Int64} {r : Option Nat} (hn : n ≤ 8) (hm : σ 1 2 = nI n) : zF X d m_X0_keep [.ref 36, .ref 1] L0 (mm σ τ r) none (mm (u_kp σ n) τ r) := by
  have lp : ∀ (m j : Nat), j + m = n → zT X d m_X0_keep (fun w L2 μ2 => w = none ∧ L2 = L0 ∧ μ2 = mm (u_kp σ n) τ r) 0 0 39 [some (.ref 36), some (.ref 1), some (.int (nI j)), none] [] L0 (mm (u_kp σ j) τ r) := by
    intro m
    induction m with
    | zero =>
      intro j hj
      have hj : j = n := by omega
      subst hj
      refine zT.step ct_X0_keep_ok ?_
      refine zT.step ct_X0_keep_ok ?_
      refine zT.step ct_X0_keep_ok ?_
      refine And.intro ⟨by decide, _, rfl⟩ ?_
      refine zT.step ct_X0_keep_ok ?_
      refine And.intro (fun q => ?_) (fun q => ?_)
      · refine zT.step ct_X0_keep_ok ?_
        exact And.intro rfl (And.intro rfl rfl)
      · have q : ¬ u_kp σ j 36 1 ≤ nI j := q
        have e : u_kp σ j 36 1 = nI j := hm
        rw [e] at q
        exact absurd (Int32.le_refl _) q
    | succ m ih =>
      intro j hj
      refine zT.step ct_X0_keep_ok ?_
      refine zT.step ct_X0_keep_ok ?_
      refine zT.step ct_X0_keep_ok ?_
      refine And.intro ⟨by decide, _, rfl⟩ ?_
      refine zT.step ct_X0_keep_ok ?_
      refine And.intro (fun q => ?_) (fun q => ?_)
      · have q : u_kp σ j 36 1 ≤ nI j := q
        have e : u_kp σ j 36 1 = nI n := hm
        rw [e] at q
        have := (nI_leI (by omega) (by omega)).mp q
        omega
      refine zT.step ct_X0_keep_ok ?_
      refine zT.step ct_X0_keep_ok ?_
      refine And.intro ⟨by decide, _, rfl⟩ ?_
      refine zT.step ct_X0_keep_ok ?_
      refine zT.step ct_X0_keep_ok ?_
      refine Exists.intro j (And.intro ⟨rfl, by decide, 8, rfl, by omega, by decide⟩ ?_)
      refine zT.step ct_X0_keep_ok ?_
      refine zT.step ct_X0_keep_ok ?_
      refine zT.step ct_X0_keep_ok ?_
      refine And.intro ⟨by decide, _, rfl⟩ ?_
      refine zT.step ct_X0_keep_ok ?_
      refine zT.step ct_X0_keep_ok ?_
      refine zT.step ct_X0_keep_ok ?_
      refine And.intro (L0_thing (by omega)) ?_
      refine zT.step ct_X0_keep_ok ?_
      refine Exists.intro j (And.intro ⟨rfl, by decide, 8, rfl, by omega, by decide⟩ ?_)
      refine zT.step ct_X0_keep_ok ?_
      refine zT.step ct_X0_keep_ok ?_
      refine And.intro ⟨by decide, _, rfl⟩ ?_
      refine zT.step ct_X0_keep_ok ?_
      refine zT.step ct_X0_keep_ok ?_
      refine zT.step ct_X0_keep_ok ?_
      refine And.intro (L0_thing (by omega)) ?_
      refine zT.step ct_X0_keep_ok ?_
      refine Exists.intro j (And.intro ⟨rfl, by decide, 8, rfl, by omega, by decide⟩ ?_)
      refine zT.step ct_X0_keep_ok ?_
      refine zT.step ct_X0_keep_ok ?_
      refine And.intro ⟨by decide, _, rfl⟩ ?_
      refine zT.step ct_X0_keep_ok ?_
      refine zT.step ct_X0_keep_ok ?_
      refine zT.step ct_X0_keep_ok ?_
      refine And.intro (L0_thing (by omega)) ?_
      refine zT.step ct_X0_keep_ok ?_
      refine Exists.intro j (And.intro ⟨rfl, by decide, 8, rfl, by omega, by decide⟩ ?_)
      refine zT.step ct_X0_keep_ok ?_
      refine zT.step ct_X0_keep_ok ?_
      rw [nI_1]
      refine zT.drop 3 ?_
      refine zT.eqm ?_ (ih (j + 1) (by omega))
      have e8 : u_kp σ j (8 + j) = σ (8 + j) := u_kp_o _ _ _ (by omega)
      show mm (z_up (z_up (z_up (u_kp σ j) 37 j (u_kp σ j (8 + j) 1)) 38 j (z_up (u_kp σ j) 37 j (u_kp σ j (8 + j) 1) (8 + j) 2)) 39 j (z_up (z_up (u_kp σ j) 37 j (u_kp σ j (8 + j) 1)) 38 j (z_up (u_kp σ j) 37 j (u_kp σ j (8 + j) 1) (8 + j) 2) (8 + j) 3)) τ r = _
      rw [zu_n _ 38 _ (8 + j) _ (by omega), zu_n _ 37 _ (8 + j) _ (by omega), e8, u_kp_s]
  refine zF.of mk_X0_keep rfl ?_
  refine zT.step ct_X0_keep_ok ?_
  refine zT.step ct_X0_keep_ok ?_
  refine zT.step ct_X0_keep_ok ?_
  refine And.intro ⟨⟨by decide, _, rfl⟩, by decide⟩ ?_
  refine zT.step ct_X0_keep_ok ?_
  refine zT.step ct_X0_keep_ok ?_
  refine zT.step ct_X0_keep_ok ?_
  refine And.intro ⟨by decide, _, rfl⟩ ?_
  refine zT.step ct_X0_keep_ok ?_
  refine And.intro ⟨by decide, _, rfl⟩ ?_
  refine zT.step ct_X0_keep_ok ?_
  refine zT.step ct_X0_keep_ok ?_
  refine zT.step ct_X0_keep_ok ?_
  refine And.intro ⟨by decide, _, rfl⟩ ?_
  refine zT.step ct_X0_keep_ok ?_
  refine And.intro ⟨by decide, _, rfl⟩ ?_
  refine zT.step ct_X0_keep_ok ?_
  refine zT.step ct_X0_keep_ok ?_
  refine zT.step ct_X0_keep_ok ?_
  refine And.intro ⟨by decide, _, rfl⟩ ?_
  refine zT.step ct_X0_keep_ok ?_
  refine And.intro ⟨by decide, _, rfl⟩ ?_
  refine zT.step ct_X0_keep_ok ?_
  refine zT.step ct_X0_keep_ok ?_
  refine zT.step ct_X0_keep_ok ?_
  refine And.intro ⟨by decide, _, rfl⟩ ?_
  refine zT.step ct_X0_keep_ok ?_
  refine And.intro ⟨by decide, _, rfl⟩ ?_
  refine zT.step ct_X0_keep_ok ?_
  refine zT.step ct_X0_keep_ok ?_
  refine zT.eqm ?_ (lp n 0 (by omega))
  rw [← u_kp_0]
  rfl
theorem s_image {X : zXs} {d n : Nat} {σ : zSg} {τ : Nat → Nat → Int64} {r : Option Nat} (hd : 1 ≤ d) (hn : n ≤ 8) (hm : σ 1 2 = nI n) : zF X d m_X6_image [.ref 0] L0 (mm σ τ r) (some (.int (nI n))) (mm (u_kp σ n) τ r) := by
  refine zF.of mk_X6_image rfl ?_
  refine zT.step ct_X6_image_ok ?_
  refine zT.step ct_X6_image_ok ?_
  refine And.intro ⟨by decide, _, rfl⟩ ?_
  refine zT.step ct_X6_image_ok ?_
  refine zT.step ct_X6_image_ok ?_
  refine And.intro ⟨by decide, _, rfl⟩ ?_
  refine zT.step ct_X6_image_ok ?_
  refine And.intro ⟨by omega, by decide, _, rfl⟩ (zF.use (s_keep hn hm) ?_)
  refine zT.step ct_X6_image_ok ?_
  refine zT.step ct_X6_image_ok ?_
  refine And.intro ⟨by decide, _, rfl⟩ ?_
  refine zT.step ct_X6_image_ok ?_
  refine And.intro ⟨by decide, _, rfl⟩ ?_
  refine zT.step ct_X6_image_ok ?_
  exact And.intro (by rw [← hm]; rfl) (And.intro rfl rfl)
/-- the square laid back as far as the first j things -/
def u_bk (σ : zSg) (j : Nat) : zSg := fun c k => if c = 1 then (if k = 2 then σ 36 1 else if k = 4 then σ 36 2 else if k = 5 then σ 36 3 else if k = 6 then σ 36 4 else σ 1 k) else if 8 ≤ c ∧ c < 8 + j then (if k = 1 then σ 37 (c - 8) else if k = 2 then σ 38 (c - 8) else if k = 3 then σ 39 (c - 8) else σ c k) else σ c k
theorem u_bk_s (σ : zSg) (j : Nat) : z_up (z_up (z_up (u_bk σ j) (8 + j) 1 (σ 37 j)) (8 + j) 2 (σ 38 j)) (8 + j) 3 (σ 39 j) = u_bk σ (j + 1) := by
  funext c k
  unfold z_up u_bk
  by_cases h : c = 8 + j
  · subst h
    have e1 : ¬ 8 + j = 1 := by omega
    have e2 : 8 + j - 8 = j := by omega
    by_cases h3 : k = 3
    · subst h3; simp [e1, e2]
    by_cases h2 : k = 2
    · subst h2; simp [e1, e2]
    by_cases h1 : k = 1
    · subst h1; simp [e1, e2]
    simp [e1, h1, h2, h3]
  · have e : (8 ≤ c ∧ c < 8 + (j + 1)) = (8 ≤ c ∧ c < 8 + j) := by rw [eq_iff_iff]; omega
    simp only [h, e, false_and, if_false]
theorem u_bk_0 (σ : zSg) : z_up (z_up (z_up (z_up σ 1 2 (σ 36 1)) 1 4 (σ 36 2)) 1 5 (σ 36 3)) 1 6 (σ 36 4) = u_bk σ 0 := by
  funext c k
  unfold z_up u_bk
  by_cases h : c = 1
  · subst h
    by_cases h6 : k = 6
    · subst h6; simp
    by_cases h5 : k = 5
    · subst h5; simp
    by_cases h4 : k = 4
    · subst h4; simp
    by_cases h2 : k = 2
    · subst h2; simp
    simp [h2, h4, h5, h6]
  · have e : ¬ (8 ≤ c ∧ c < 8 + 0) := by omega
    simp only [h, e, false_and, if_false]
theorem u_bk_o (σ : zSg) (j c : Nat) (hj : j ≤ 8) (h : c = 0 ∨ 16 ≤ c) : u_bk σ j c = σ c := by
  funext k
  unfold u_bk
  rw [if_neg (by omega), if_neg (by omega)]
theorem s_layBack {X : zXs} {d n : Nat} {σ : zSg} {τ : Nat → Nat → Int64} {r : Option Nat} (hn : n ≤ 8) (hm : σ 36 1 = nI n) : zF X d m_X0_layBack [.ref 36, .ref 1] L0 (mm σ τ r) none (mm (u_bk σ n) τ r) := by
  have lp : ∀ (m j : Nat), j + m = n → zT X d m_X0_layBack (fun w L2 μ2 => w = none ∧ L2 = L0 ∧ μ2 = mm (u_bk σ n) τ r) 0 0 34 [some (.ref 36), some (.ref 1), some (.int (nI j)), none] [] L0 (mm (u_bk σ j) τ r) := by
    intro m
    induction m with
    | zero =>
      intro j hj
      have hj : j = n := by omega
      subst hj
      refine zT.step ct_X0_layBack_ok ?_
      refine zT.step ct_X0_layBack_ok ?_
      refine zT.step ct_X0_layBack_ok ?_
      refine And.intro ⟨by decide, _, rfl⟩ ?_
      refine zT.step ct_X0_layBack_ok ?_
      refine And.intro (fun q => ?_) (fun q => ?_)
      · refine zT.step ct_X0_layBack_ok ?_
        exact And.intro rfl (And.intro rfl rfl)
      · have q : ¬ u_bk σ j 36 1 ≤ nI j := q
        rw [u_bk_o _ _ _ hn (by omega), hm] at q
        exact absurd (Int32.le_refl _) q
    | succ m ih =>
      intro j hj
      refine zT.step ct_X0_layBack_ok ?_
      refine zT.step ct_X0_layBack_ok ?_
      refine zT.step ct_X0_layBack_ok ?_
      refine And.intro ⟨by decide, _, rfl⟩ ?_
      refine zT.step ct_X0_layBack_ok ?_
      refine And.intro (fun q => ?_) (fun q => ?_)
      · have q : u_bk σ j 36 1 ≤ nI j := q
        rw [u_bk_o _ _ _ (by omega) (by omega), hm] at q
        have := (nI_leI (by omega) (by omega)).mp q
        omega
      refine zT.step ct_X0_layBack_ok ?_
      refine zT.step ct_X0_layBack_ok ?_
      refine And.intro ⟨by decide, _, rfl⟩ ?_
      refine zT.step ct_X0_layBack_ok ?_
      refine zT.step ct_X0_layBack_ok ?_
      refine Exists.intro j (And.intro ⟨rfl, by decide, 8, rfl, by omega, by decide⟩ ?_)
      refine zT.step ct_X0_layBack_ok ?_
      refine zT.step ct_X0_layBack_ok ?_
      refine zT.step ct_X0_layBack_ok ?_
      refine zT.step ct_X0_layBack_ok ?_
      refine And.intro ⟨by decide, _, rfl⟩ ?_
      refine zT.step ct_X0_layBack_ok ?_
      refine zT.step ct_X0_layBack_ok ?_
      refine Exists.intro j (And.intro ⟨rfl, by decide, 8, rfl, by omega, by decide⟩ ?_)
      refine zT.step ct_X0_layBack_ok ?_
      refine And.intro (L0_thing (by omega)) ?_
      refine zT.step ct_X0_layBack_ok ?_
      refine zT.step ct_X0_layBack_ok ?_
      refine zT.step ct_X0_layBack_ok ?_
      refine And.intro ⟨by decide, _, rfl⟩ ?_
      refine zT.step ct_X0_layBack_ok ?_
      refine zT.step ct_X0_layBack_ok ?_
      refine Exists.intro j (And.intro ⟨rfl, by decide, 8, rfl, by omega, by decide⟩ ?_)
      refine zT.step ct_X0_layBack_ok ?_
      refine And.intro (L0_thing (by omega)) ?_
      refine zT.step ct_X0_layBack_ok ?_
      refine zT.step ct_X0_layBack_ok ?_
      refine zT.step ct_X0_layBack_ok ?_
      refine And.intro ⟨by decide, _, rfl⟩ ?_
      refine zT.step ct_X0_layBack_ok ?_
      refine zT.step ct_X0_layBack_ok ?_
      refine Exists.intro j (And.intro ⟨rfl, by decide, 8, rfl, by omega, by decide⟩ ?_)
      refine zT.step ct_X0_layBack_ok ?_
      refine And.intro (L0_thing (by omega)) ?_
      refine zT.step ct_X0_layBack_ok ?_
      refine zT.step ct_X0_layBack_ok ?_
      rw [nI_1]
      refine zT.drop 3 ?_
      refine zT.eqm ?_ (ih (j + 1) (by omega))
      show mm (z_up (z_up (z_up (u_bk σ j) (8 + j) 1 (u_bk σ j 37 j)) (8 + j) 2 (z_up (u_bk σ j) (8 + j) 1 (u_bk σ j 37 j) 38 j)) (8 + j) 3 (z_up (z_up (u_bk σ j) (8 + j) 1 (u_bk σ j 37 j)) (8 + j) 2 (z_up (u_bk σ j) (8 + j) 1 (u_bk σ j 37 j) 38 j) 39 j)) τ r = _
      rw [zu_n _ (8 + j) 2 39 _ (by omega), zu_n _ (8 + j) 1 39 _ (by omega), zu_n _ (8 + j) 1 38 _ (by omega), u_bk_o _ _ 37 (by omega) (by omega), u_bk_o _ _ 38 (by omega) (by omega), u_bk_o _ _ 39 (by omega) (by omega), u_bk_s]
  refine zF.of mk_X0_layBack rfl ?_
  refine zT.step ct_X0_layBack_ok ?_
  refine zT.step ct_X0_layBack_ok ?_
  refine zT.step ct_X0_layBack_ok ?_
  refine And.intro ⟨by decide, _, rfl⟩ ?_
  refine zT.step ct_X0_layBack_ok ?_
  refine And.intro ⟨by decide, _, rfl⟩ ?_
  refine zT.step ct_X0_layBack_ok ?_
  refine zT.step ct_X0_layBack_ok ?_
  refine zT.step ct_X0_layBack_ok ?_
  refine And.intro ⟨by decide, _, rfl⟩ ?_
  refine zT.step ct_X0_layBack_ok ?_
  refine And.intro ⟨by decide, _, rfl⟩ ?_
  refine zT.step ct_X0_layBack_ok ?_
  refine zT.step ct_X0_layBack_ok ?_
  refine zT.step ct_X0_layBack_ok ?_
  refine And.intro ⟨by decide, _, rfl⟩ ?_
  refine zT.step ct_X0_layBack_ok ?_
  refine And.intro ⟨by decide, _, rfl⟩ ?_
  refine zT.step ct_X0_layBack_ok ?_
  refine zT.step ct_X0_layBack_ok ?_
  refine zT.step ct_X0_layBack_ok ?_
  refine And.intro ⟨by decide, _, rfl⟩ ?_
  refine zT.step ct_X0_layBack_ok ?_
  refine And.intro ⟨by decide, _, rfl⟩ ?_
  refine zT.step ct_X0_layBack_ok ?_
  refine zT.step ct_X0_layBack_ok ?_
  refine zT.eqm ?_ (lp n 0 (by omega))
  rw [← u_bk_0]
  rfl
theorem s_back {X : zXs} {d n : Nat} {σ : zSg} {τ : Nat → Nat → Int64} {r : Option Nat} (hd : 1 ≤ d) (hm : ¬ σ 36 0 = 0 → n ≤ 8 ∧ σ 36 1 = nI n) : zF X d m_X6_back [.ref 0] L0 (mm σ τ r) (some (.int (if σ 36 0 = 0 then -3 else nI n))) (mm (if σ 36 0 = 0 then σ else u_bk σ n) τ r) := by
  refine zF.of mk_X6_back rfl ?_
  refine zT.step ct_X6_back_ok ?_
  refine zT.step ct_X6_back_ok ?_
  refine And.intro ⟨by decide, _, rfl⟩ ?_
  refine zT.step ct_X6_back_ok ?_
  refine And.intro ⟨by decide, _, rfl⟩ ?_
  refine zT.step ct_X6_back_ok ?_
  refine And.intro (fun q => ?_) (fun q => ?_)
  · have q : σ 36 0 = 0 := q
    rw [if_pos q, if_pos q]
    refine zT.step ct_X6_back_ok ?_
    refine zT.step ct_X6_back_ok ?_
    exact And.intro rfl (And.intro rfl rfl)
  · have q : ¬ σ 36 0 = 0 := q
    obtain ⟨hn, hm⟩ := hm q
    rw [if_neg q, if_neg q]
    refine zT.step ct_X6_back_ok ?_
    refine zT.step ct_X6_back_ok ?_
    refine And.intro ⟨by decide, _, rfl⟩ ?_
    refine zT.step ct_X6_back_ok ?_
    refine zT.step ct_X6_back_ok ?_
    refine And.intro ⟨by decide, _, rfl⟩ ?_
    refine zT.step ct_X6_back_ok ?_
    refine And.intro ⟨by omega, by decide, _, rfl⟩ (zF.use (s_layBack hn hm) ?_)
    refine zT.step ct_X6_back_ok ?_
    refine zT.step ct_X6_back_ok ?_
    refine And.intro ⟨by decide, _, rfl⟩ ?_
    refine zT.step ct_X6_back_ok ?_
    refine And.intro ⟨by decide, _, rfl⟩ ?_
    refine zT.step ct_X6_back_ok ?_
    exact And.intro (by rw [← hm]; rfl) (And.intro rfl rfl)
def f_us (x : Int32) (y : Int32) : Int32 := (x.toUInt32 >>> (y.toUInt32 &&& Int32.toUInt32 31)).toInt32
def f_p1 (i : Int32) : Int32 := i - (f_us i 1 &&& 1431655765)
def f_p2 (i : Int32) : Int32 := (i &&& 858993459) + (f_us i 2 &&& 858993459)
def f_p3 (i : Int32) : Int32 := i + f_us i 4 &&& 252645135
def f_p4 (i : Int32) : Int32 := i + f_us i 8
def f_p5 (i : Int32) : Int32 := i + f_us i 16
def f_pop (i : Int32) : Int32 := f_p5 (f_p4 (f_p3 (f_p2 (f_p1 i)))) &&& 63
theorem s_bitCount {X : zXs} {d : Nat} {L : List zSh} {μ : zMem} {c : Int32} : zF X d m_J6_bitCount_0f7a4 [.int c] L μ (some (.int (f_pop c))) μ := by
  refine zF.of mk_J6_bitCount_0f7a4 rfl ?_
  refine zT.step ct_J6_bitCount_0f7a4_ok ?_
  refine zT.step ct_J6_bitCount_0f7a4_ok ?_
  refine zT.step ct_J6_bitCount_0f7a4_ok ?_
  refine zT.step ct_J6_bitCount_0f7a4_ok ?_
  refine zT.step ct_J6_bitCount_0f7a4_ok ?_
  refine zT.step ct_J6_bitCount_0f7a4_ok ?_
  refine zT.step ct_J6_bitCount_0f7a4_ok ?_
  refine zT.step ct_J6_bitCount_0f7a4_ok ?_
  show zT _ _ _ _ _ _ 10 [some (.int (f_p1 c))] _ _ _
  unfold f_pop
  generalize f_p1 c = c
  refine zT.step ct_J6_bitCount_0f7a4_ok ?_
  refine zT.step ct_J6_bitCount_0f7a4_ok ?_
  refine zT.step ct_J6_bitCount_0f7a4_ok ?_
  refine zT.step ct_J6_bitCount_0f7a4_ok ?_
  refine zT.step ct_J6_bitCount_0f7a4_ok ?_
  refine zT.step ct_J6_bitCount_0f7a4_ok ?_
  refine zT.step ct_J6_bitCount_0f7a4_ok ?_
  refine zT.step ct_J6_bitCount_0f7a4_ok ?_
  refine zT.step ct_J6_bitCount_0f7a4_ok ?_
  refine zT.step ct_J6_bitCount_0f7a4_ok ?_
  show zT _ _ _ _ _ _ 24 [some (.int (f_p2 c))] _ _ _
  generalize f_p2 c = c
  refine zT.step ct_J6_bitCount_0f7a4_ok ?_
  refine zT.step ct_J6_bitCount_0f7a4_ok ?_
  refine zT.step ct_J6_bitCount_0f7a4_ok ?_
  refine zT.step ct_J6_bitCount_0f7a4_ok ?_
  refine zT.step ct_J6_bitCount_0f7a4_ok ?_
  refine zT.step ct_J6_bitCount_0f7a4_ok ?_
  refine zT.step ct_J6_bitCount_0f7a4_ok ?_
  refine zT.step ct_J6_bitCount_0f7a4_ok ?_
  show zT _ _ _ _ _ _ 34 [some (.int (f_p3 c))] _ _ _
  generalize f_p3 c = c
  refine zT.step ct_J6_bitCount_0f7a4_ok ?_
  refine zT.step ct_J6_bitCount_0f7a4_ok ?_
  refine zT.step ct_J6_bitCount_0f7a4_ok ?_
  refine zT.step ct_J6_bitCount_0f7a4_ok ?_
  refine zT.step ct_J6_bitCount_0f7a4_ok ?_
  refine zT.step ct_J6_bitCount_0f7a4_ok ?_
  show zT _ _ _ _ _ _ 41 [some (.int (f_p4 c))] _ _ _
  generalize f_p4 c = c
  refine zT.step ct_J6_bitCount_0f7a4_ok ?_
  refine zT.step ct_J6_bitCount_0f7a4_ok ?_
  refine zT.step ct_J6_bitCount_0f7a4_ok ?_
  refine zT.step ct_J6_bitCount_0f7a4_ok ?_
  refine zT.step ct_J6_bitCount_0f7a4_ok ?_
  refine zT.step ct_J6_bitCount_0f7a4_ok ?_
  show zT _ _ _ _ _ _ 48 [some (.int (f_p5 c))] _ _ _
  generalize f_p5 c = c
  refine zT.step ct_J6_bitCount_0f7a4_ok ?_
  refine zT.step ct_J6_bitCount_0f7a4_ok ?_
  refine zT.step ct_J6_bitCount_0f7a4_ok ?_
  refine zT.step ct_J6_bitCount_0f7a4_ok ?_
  exact And.intro rfl (And.intro rfl rfl)
def v_count (σ : zSg) (x : Int32) : Int32 := if x = 0 then σ 1 2 else if x = 1 then f_pop (σ 1 6) else if x = 2 then σ 1 3 else if x = 3 then σ 34 0 else if x = 4 then σ 1 4 else -2
theorem s_count {X : zXs} {d : Nat} {σ : zSg} {τ : Nat → Nat → Int64} {r : Option Nat} {x : Int32} (hd : 1 ≤ d) : zF X d m_X6_count [.ref 0, .int x] L0 (mm σ τ r) (some (.int (v_count σ x))) (mm σ τ r) := by
  refine zF.of mk_X6_count rfl ?_
  refine zT.step ct_X6_count_ok ?_
  refine zT.step ct_X6_count_ok ?_
  by_cases h0 : x = 0
  · refine z_tin (K := fun t => zT _ _ _ _ _ _ t _ _ _ _) h0 0 36 rfl rfl ?_
    refine zT.step ct_X6_count_ok ?_
    refine zT.step ct_X6_count_ok ?_
    refine And.intro ⟨by decide, _, rfl⟩ ?_
    refine zT.step ct_X6_count_ok ?_
    refine And.intro ⟨by decide, _, rfl⟩ ?_
    refine zT.step ct_X6_count_ok ?_
    exact And.intro (by unfold v_count; rw [if_pos h0]; rfl) (And.intro rfl rfl)
  by_cases h1 : x = 1
  · refine z_tin (K := fun t => zT _ _ _ _ _ _ t _ _ _ _) h1 1 44 rfl rfl ?_
    refine zT.step ct_X6_count_ok ?_
    refine zT.step ct_X6_count_ok ?_
    refine And.intro ⟨by decide, _, rfl⟩ ?_
    refine zT.step ct_X6_count_ok ?_
    refine And.intro ⟨by decide, _, rfl⟩ ?_
    refine zT.step ct_X6_count_ok ?_
    refine And.intro (by omega) (zF.use s_bitCount ?_)
    refine zT.step ct_X6_count_ok ?_
    exact And.intro (by unfold v_count; rw [if_neg h0, if_pos h1]; rfl) (And.intro rfl rfl)
  by_cases h2 : x = 2
  · refine z_tin (K := fun t => zT _ _ _ _ _ _ t _ _ _ _) h2 2 55 rfl rfl ?_
    refine zT.step ct_X6_count_ok ?_
    refine zT.step ct_X6_count_ok ?_
    refine And.intro ⟨by decide, _, rfl⟩ ?_
    refine zT.step ct_X6_count_ok ?_
    refine And.intro ⟨by decide, _, rfl⟩ ?_
    refine zT.step ct_X6_count_ok ?_
    exact And.intro (by unfold v_count; rw [if_neg h0, if_neg h1, if_pos h2]; rfl) (And.intro rfl rfl)
  by_cases h3 : x = 3
  · refine z_tin (K := fun t => zT _ _ _ _ _ _ t _ _ _ _) h3 3 63 rfl rfl ?_
    refine zT.step ct_X6_count_ok ?_
    refine zT.step ct_X6_count_ok ?_
    refine And.intro ⟨by decide, _, rfl⟩ ?_
    refine zT.step ct_X6_count_ok ?_
    refine And.intro ⟨by decide, _, rfl⟩ ?_
    refine zT.step ct_X6_count_ok ?_
    exact And.intro (by unfold v_count; rw [if_neg h0, if_neg h1, if_neg h2, if_pos h3]; rfl) (And.intro rfl rfl)
  by_cases h4 : x = 4
  · refine z_tin (K := fun t => zT _ _ _ _ _ _ t _ _ _ _) h4 4 71 rfl rfl ?_
    refine zT.step ct_X6_count_ok ?_
    refine zT.step ct_X6_count_ok ?_
    refine And.intro ⟨by decide, _, rfl⟩ ?_
    refine zT.step ct_X6_count_ok ?_
    refine And.intro ⟨by decide, _, rfl⟩ ?_
    refine zT.step ct_X6_count_ok ?_
    exact And.intro (by unfold v_count; rw [if_neg h0, if_neg h1, if_neg h2, if_neg h3, if_pos h4]; rfl) (And.intro rfl rfl)
  refine z_tout (K := fun t => zT _ _ _ _ _ _ t _ _ _ _) (fun j hj => ?_) ?_
  · have hj : j < 5 := hj
    intro e
    have : j = 0 ∨ j = 1 ∨ j = 2 ∨ j = 3 ∨ j = 4 := by omega
    rcases this with rfl | rfl | rfl | rfl | rfl
    · exact h0 (Int32.toInt_inj.mp e)
    · exact h1 (Int32.toInt_inj.mp e)
    · exact h2 (Int32.toInt_inj.mp e)
    · exact h3 (Int32.toInt_inj.mp e)
    · exact h4 (Int32.toInt_inj.mp e)
  refine zT.step ct_X6_count_ok ?_
  refine zT.step ct_X6_count_ok ?_
  exact And.intro (by unfold v_count; rw [if_neg h0, if_neg h1, if_neg h2, if_neg h3, if_neg h4]) (And.intro rfl rfl)
def v_feed (c : Nat) (x : Int32) : Int32 := bif rg x 256 then (if c = 160 then -4 else nI (c + 1)) else -2
def u_feed (σ : zSg) (c : Nat) (x : Int32) : zSg := bif rg x 256 then (if c = 160 then σ else z_up (z_up σ 35 c x) 34 0 (nI (c + 1))) else σ
theorem s_feed {X : zXs} {d c : Nat} {σ : zSg} {τ : Nat → Nat → Int64} {r : Option Nat} {x : Int32} (hd : 1 ≤ d) (hc : c ≤ 160) (hm : σ 34 0 = nI c) : zF X d m_X6_feed [.ref 0, .int x] L0 (mm σ τ r) (some (.int (v_feed c x))) (mm (u_feed σ c x) τ r) := by
  have bad : rg x 256 = false → zT X d m_X6_feed (fun u L2 μ2 => u = some (.int (v_feed c x)) ∧ L2 = L0 ∧ μ2 = mm (u_feed σ c x) τ r) 0 0 11 [some (.ref 0), some (.int x)] [] L0 (mm σ τ r) := by
    intro h
    refine zT.step ct_X6_feed_ok ?_
    refine zT.step ct_X6_feed_ok ?_
    exact And.intro (by unfold v_feed; rw [h]; rfl) (And.intro rfl (by unfold u_feed; rw [h]; rfl))
  refine zF.of mk_X6_feed rfl ?_
  refine zT.step ct_X6_feed_ok ?_
  refine zT.step ct_X6_feed_ok ?_
  refine And.intro (fun q => bad (rg_neg q)) (fun q1 => ?_)
  refine zT.step ct_X6_feed_ok ?_
  refine zT.step ct_X6_feed_ok ?_
  refine zT.step ct_X6_feed_ok ?_
  refine And.intro (fun q2 => ?_) (fun q2 => bad (rg_ge (Int32.not_lt.mp (fun z => q2 ((le_lt (m := 255) (by omega)).mpr z)))))
  have hx : rg x 256 = true := rg_in q1 ((le_lt (m := 255) (by omega)).mp q2)
  have hv : v_feed c x = if c = 160 then -4 else nI (c + 1) := by unfold v_feed; rw [hx]; rfl
  have hu : u_feed σ c x = if c = 160 then σ else z_up (z_up σ 35 c x) 34 0 (nI (c + 1)) := by unfold u_feed; rw [hx]; rfl
  rw [hv, hu]
  refine zT.step ct_X6_feed_ok ?_
  refine zT.step ct_X6_feed_ok ?_
  refine And.intro ⟨by decide, _, rfl⟩ ?_
  refine zT.step ct_X6_feed_ok ?_
  refine zT.step ct_X6_feed_ok ?_
  refine And.intro ⟨by omega, by decide, _, rfl⟩ (zC.inl mk_X1_take rfl ?_)
  refine zT.step ct_X1_take_ok ?_
  refine zT.step ct_X1_take_ok ?_
  refine And.intro ⟨by decide, _, rfl⟩ ?_
  refine zT.step ct_X1_take_ok ?_
  refine zT.step ct_X1_take_ok ?_
  refine And.intro ⟨by decide, _, rfl⟩ ?_
  refine zT.step ct_X1_take_ok ?_
  refine And.intro ⟨by decide, rfl⟩ ?_
  refine zT.step ct_X1_take_ok ?_
  refine And.intro (fun q => ?_) (fun q => ?_)
  · have q : σ 34 0 < Int32.ofNat 160 := q
    rw [hm] at q
    have hc8 : c < 160 := (i_lt (x := nI c) (y := Int32.ofNat 160) rfl rfl (by omega) (by omega)).mp q
    rw [if_neg (show ¬ c = 160 by omega), if_neg (show ¬ c = 160 by omega)]
    refine zT.step ct_X1_take_ok ?_
    refine zT.step ct_X1_take_ok ?_
    refine And.intro ⟨by decide, _, rfl⟩ ?_
    refine zT.step ct_X1_take_ok ?_
    refine zT.step ct_X1_take_ok ?_
    refine And.intro ⟨by decide, _, rfl⟩ ?_
    refine zT.step ct_X1_take_ok ?_
    refine zT.step ct_X1_take_ok ?_
    refine Exists.intro c (And.intro ⟨hm, by decide, 160, rfl, hc8, by decide⟩ ?_)
    refine zT.step ct_X1_take_ok ?_
    refine zT.step ct_X1_take_ok ?_
    refine zT.step ct_X1_take_ok ?_
    refine And.intro ⟨by decide, _, rfl⟩ ?_
    refine zT.step ct_X1_take_ok ?_
    refine zT.step ct_X1_take_ok ?_
    refine zT.step ct_X1_take_ok ?_
    refine And.intro ⟨by decide, _, rfl⟩ ?_
    refine zT.step ct_X1_take_ok ?_
    refine zT.step ct_X1_take_ok ?_
    refine And.intro ⟨by decide, _, rfl⟩ ?_
    refine zT.step ct_X1_take_ok ?_
    refine zT.step ct_X6_feed_ok ?_
    have e1 : z_up σ 35 c x 34 0 = nI c := by rw [zu_n _ _ _ _ _ (by omega), hm]
    refine And.intro ?_ (And.intro rfl ?_)
    · show some (Value.int (z_up (z_up σ 35 c x) 34 0 (z_up σ 35 c x 34 0 + 1) 34 0)) = _
      rw [e1, z_up_s, nI_1]
    · show mm (z_up (z_up σ 35 c x) 34 0 (z_up σ 35 c x 34 0 + 1)) τ r = _
      rw [e1, nI_1]
  · have q : ¬ σ 34 0 < Int32.ofNat 160 := q
    rw [hm] at q
    have hc8 : c = 160 := by
      have : ¬ c < 160 := fun z => q ((i_lt (x := nI c) (y := Int32.ofNat 160) rfl rfl (by omega) (by omega)).mpr z)
      omega
    rw [if_pos hc8, if_pos hc8]
    refine zT.step ct_X1_take_ok ?_
    refine zT.step ct_X1_take_ok ?_
    refine zT.step ct_X6_feed_ok ?_
    exact And.intro rfl (And.intro rfl rfl)
def v_force (σ : zSg) (m : Nat) (x : Int32) : Int32 := bif rg x m then σ 1 4 else -2
def u_force (σ : zSg) (m : Nat) (x : Int32) : zSg := bif rg x m then z_up σ 1 4 x else σ
theorem s_force {X : zXs} {d m : Nat} {σ : zSg} {τ : Nat → Nat → Int64} {r : Option Nat} {x : Int32} (hm : σ 1 3 = nI m) : zF X d m_X6_force [.ref 0, .int x] L0 (mm σ τ r) (some (.int (v_force σ m x))) (mm (u_force σ m x) τ r) := by
  have bad : rg x m = false → zT X d m_X6_force (fun u L2 μ2 => u = some (.int (v_force σ m x)) ∧ L2 = L0 ∧ μ2 = mm (u_force σ m x) τ r) 0 0 15 [some (.ref 0), some (.int x), none] [] L0 (mm σ τ r) := by
    intro h
    refine zT.step ct_X6_force_ok ?_
    refine zT.step ct_X6_force_ok ?_
    exact And.intro (by unfold v_force; rw [h]; rfl) (And.intro rfl (by unfold u_force; rw [h]; rfl))
  refine zF.of mk_X6_force rfl ?_
  refine zT.step ct_X6_force_ok ?_
  refine zT.step ct_X6_force_ok ?_
  refine And.intro (fun q => bad (rg_neg q)) (fun q1 => ?_)
  refine zT.step ct_X6_force_ok ?_
  refine zT.step ct_X6_force_ok ?_
  refine zT.step ct_X6_force_ok ?_
  refine And.intro ⟨by decide, _, rfl⟩ ?_
  refine zT.step ct_X6_force_ok ?_
  refine And.intro ⟨by decide, _, rfl⟩ ?_
  refine zT.step ct_X6_force_ok ?_
  refine And.intro (fun q2 => ?_) (fun q2 => ?_)
  · have q2 : x < σ 1 3 := q2
    rw [hm] at q2
    have hx : rg x m = true := rg_in q1 q2
    refine zT.step ct_X6_force_ok ?_
    refine zT.step ct_X6_force_ok ?_
    refine And.intro ⟨by decide, _, rfl⟩ ?_
    refine zT.step ct_X6_force_ok ?_
    refine And.intro ⟨by decide, _, rfl⟩ ?_
    refine zT.step ct_X6_force_ok ?_
    refine zT.step ct_X6_force_ok ?_
    refine zT.step ct_X6_force_ok ?_
    refine And.intro ⟨by decide, _, rfl⟩ ?_
    refine zT.step ct_X6_force_ok ?_
    refine zT.step ct_X6_force_ok ?_
    refine And.intro ⟨by decide, _, rfl⟩ ?_
    refine zT.step ct_X6_force_ok ?_
    refine zT.step ct_X6_force_ok ?_
    exact And.intro (by unfold v_force; rw [hx]; rfl) (And.intro rfl (by unfold u_force; rw [hx]; rfl))
  · have q2 : ¬ x < σ 1 3 := q2
    rw [hm] at q2
    exact bad (rg_ge (Int32.not_lt.mp q2))
