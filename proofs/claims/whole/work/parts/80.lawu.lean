/-! the law's calls that change something (by lawgen.py) -/
theorem INV.cl {a' σ1 σ2 : zSg} {n t m c : Nat} (h : INV a' σ2 n t m c) (hA : CEQ a' σ1) (hL : LO σ1 σ2) : INV σ2 σ2 n t m c := h.q (hA.trans hL.ceq) RQ.rf
theorem set_hi {a : zSg} {n : Nat} {w x v : Int32} (hn : n ≤ 8) : HI a (u_set a n w x v) := by
  intro b hb
  unfold u_set
  cases hk : k_set n w x v with
  | false => rfl
  | true =>
    unfold k_set at hk
    rw [Bool.and_eq_true, Bool.and_eq_true] at hk
    obtain ⟨⟨k1, -⟩, k3⟩ := hk
    obtain ⟨wn, hw, rfl⟩ := rg_t (by decide) k1
    rw [nI_clamp (by omega)]
    show u_put a wn x.toNatClampNeg v b = a b
    unfold u_put
    by_cases q0 : wn = 0
    · rw [if_pos q0, zu_n _ _ _ _ _ (by omega)]
    rw [if_neg q0]
    by_cases q1 : wn = 1
    · rw [if_pos q1, zu_n _ _ _ _ _ (by omega)]
    rw [if_neg q1]
    have hx : rg x n = true := by
      rw [decide_eq_false (show ¬ nI wn < 2 from fun z => by have z : nI wn < nI 2 := z; rw [nI_ltI (by omega) (by decide)] at z; omega), Bool.false_or] at k3
      exact k3
    obtain ⟨i, hi, rfl⟩ := rg_t (by omega) hx
    rw [nI_clamp (by omega)]
    exact mv_o _ _ _ _ _ (by omega)
theorem set_lo {σ : zSg} {n : Nat} {w x v : Int32} : LO σ (w_set σ n w x v) := by
  intro b hb
  unfold w_set
  cases hk : k_set n w x v with
  | false => rfl
  | true =>
    show w_lay σ _ _ v b = σ b
    unfold w_lay
    split
    · exact zu_n _ _ _ _ _ (by omega)
    split
    · exact zu_n _ _ _ _ _ (by omega)
    split
    · exact zu_n _ _ _ _ _ (by omega)
    split
    · exact zu_n _ _ _ _ _ (by omega)
    · exact zu_n _ _ _ _ _ (by omega)
theorem thing_hi {a : zSg} {n : Nat} {x y z : Int32} (hn : n ≤ 8) : HI a (u_thing a n x y z) := fun b hb => u_thing_o _ _ hn _ _ _ _ (by omega)
theorem PW.lo {σ σ' : zSg} (h : PW σ σ') : LO σ σ' := fun b hb => h.1 b (by omega) (by omega) (by omega)
theorem PA.hi {σ σ' : zSg} (h : PA σ σ') : HI σ σ' := fun b hb => h.1 b (by omega)
theorem thing_lo {σ : zSg} {n : Nat} {x y z : Int32} : LO σ (w_thing σ n x y z) := by
  unfold w_thing
  cases k_thing x y z with
  | false => exact fun _ _ => rfl
  | true =>
    show LO σ (if n = 8 then σ else w_come σ n x y z)
    by_cases q : n = 8
    · rw [if_pos q]; exact fun _ _ => rfl
    · rw [if_neg q]; exact pw_come.lo
theorem feed_hi {a : zSg} {c : Nat} {x : Int32} : HI a (u_feed a c x) := by
  intro b hb
  unfold u_feed
  cases rg x 256 with
  | false => rfl
  | true =>
    show (if c = 160 then a else z_up (z_up a 35 c x) 34 0 (nI (c + 1))) b = a b
    by_cases q : c = 160
    · rw [if_pos q]
    · rw [if_neg q, zu_n _ _ _ _ _ (by omega), zu_n _ _ _ _ _ (by omega)]
theorem feed_lo {a : zSg} {c : Nat} {x : Int32} : LO a (w_feed a c x) := by
  intro b hb
  unfold w_feed
  cases rg x 256 with
  | false => rfl
  | true =>
    show (if c = 160 then a else z_up (z_up a 53 c x) 50 6 (nI (c + 1))) b = a b
    by_cases q : c = 160
    · rw [if_pos q]
    · rw [if_neg q, zu_n _ _ _ _ _ (by omega), zu_n _ _ _ _ _ (by omega)]
theorem force_hi {a : zSg} {m : Nat} {x : Int32} : HI a (u_force a m x) := by
  intro b hb
  unfold u_force
  cases rg x m with
  | false => rfl
  | true => exact zu_n _ _ _ _ _ (by omega)
theorem force_lo {a : zSg} {m : Nat} {x : Int32} : LO a (w_force a m x) := by
  intro b hb
  unfold w_force
  cases rg x m with
  | false => rfl
  | true => exact zu_n _ _ _ _ _ (by omega)
theorem text_hi {g : PT} {a : zSg} {m c : Nat} (hm : m ≤ 6) : HI a (u_text g a m c) := fun b hb => (u_text_o hm).1 b (by omega) (by omega) (fun _ => by omega)
theorem QT.lo {σ σ' : zSg} (h : QT σ σ') : LO σ σ' := fun b hb => h.1 b (by omega) (by omega) (by omega)
theorem SV.lo {σ σ' : zSg} (h : SV σ σ') : LO σ σ' := fun b hb => h.1 b (by omega) (by omega) (by omega) (by omega) (by omega)
theorem kp_hi {a : zSg} {n : Nat} : HI a (u_kp a n) := fun b hb => kp_o (by omega)
theorem im_lo {a : zSg} : LO a (w_im a) := fun b hb => w_im_o (by omega) (by omega)
theorem bk_hi {a : zSg} {k : Nat} (hk : k ≤ 8) : HI a (u_bk a k) := fun b hb => by
  funext j
  unfold u_bk
  rw [if_neg (by omega), if_neg (fun z => by omega)]
theorem bk_lo {a : zSg} : LO a (w_bk a) := fun b hb => w_bk_o (by omega) (by omega)
theorem shw_hi {a : zSg} {s : Nat} {so sz : Int32} {f : Nat → Int32} (hs : s < 4) : HI a (z_shw a s so sz f) := fun b hb => z_shw_o _ _ _ _ _ _ (by omega) (by omega)
theorem rg_cl {x : Int32} {n : Nat} (hn : n < 2 ^ 31) (h : rg x n = true) : x.toNatClampNeg < n := (rg_f hn h).2
theorem sheet_hi {a : zSg} {x y z : Int32} : HI a (u_sheet a x y z) := by
  intro b hb
  unfold u_sheet u_become
  have hx : k_sheet x y z = 1 ∨ k_sheet x y z = 3 → x.toNatClampNeg < 4 := by
    intro h
    refine rg_cl (by decide) ?_
    cases hr : rg x 4 with
    | true => rfl
    | false =>
      have : k_sheet x y z = 0 := by unfold k_sheet; rw [hr]; rfl
      omega
  by_cases k1 : k_sheet x y z = 1
  · rw [if_pos k1]
    exact shw_hi (hx (Or.inl k1)) b hb
  rw [if_neg k1]
  by_cases k3 : k_sheet x y z = 3
  · rw [if_pos k3]
    exact shw_hi (hx (Or.inr k3)) b hb
  · rw [if_neg k3]
theorem cell_hi {a : zSg} {x y z : Int32} : HI a (u_cell a x y z) := by
  intro b hb
  unfold u_cell
  by_cases k1 : k_cell a x y = 1
  · rw [if_pos k1]
    have : x.toNatClampNeg < 4 := by
      refine rg_cl (by decide) ?_
      cases hr : rg x 4 with
      | true => rfl
      | false =>
        unfold k_cell at k1
        rw [hr] at k1
        exact absurd (show (-2 : Int32) = 1 from k1) (by decide)
    exact zu_n _ _ _ _ _ (by omega)
  · rw [if_neg k1]
theorem copy_hi {a : zSg} {x y o z c : Int32} : HI a (u_copy a x y o z c) := by
  intro b hb
  unfold u_copy
  by_cases k1 : 0 ≤ k_copy a x y o z c
  · rw [if_pos k1]
    have : o.toNatClampNeg < 4 := by
      refine rg_cl (by decide) ?_
      cases hr : rg o 4 with
      | true => rfl
      | false =>
        unfold k_copy at k1
        rw [hr, Bool.and_false] at k1
        exact absurd (show (0 : Int32) ≤ -2 from k1) (by decide)
    exact z_row_n _ _ _ _ (by omega)
  · rw [if_neg k1]

theorem c_things_hi {F : Nat → Int32} {sz : Nat} {fr : Int32} : ∀ (m k : Nat) (a : zSg) (n : Nat) (came : Int32), n ≤ 8 → HI a (c_things F sz fr m k a n came).2 := by
  intro m
  induction m with
  | zero => intro k a n came _ b hb; rfl
  | succ m ih =>
    intro k a n came hn b hb
    unfold c_things
    cases f_holds (nI sz) (fr + 3 * nI k) 3 with
    | false => rfl
    | true =>
      refine (ih (k + 1) _ _ _ ?_ b hb).trans (u_thing_o _ _ hn _ _ _ _ (by omega))
      unfold n_thing
      cases k_thing _ _ _ with
      | false => exact hn
      | true => show (if n = 8 then n else n + 1) ≤ 8; split <;> omega
theorem things_hi {a : zSg} {n t : Nat} {x y z c : Int32} (hK : CK a n t) : HI a (v_things a n x y z c).2 := by
  intro b hb
  unfold v_things
  cases (rg x 4 && rg y 3 && rg c 9) with
  | false => rfl
  | true =>
    show (if a (42 + 2 * x.toNatClampNeg) 1 = -1 then (-11, a) else if a (42 + 2 * x.toNatClampNeg) 1 = y then c_things _ _ z _ 0 a n 0 else (-13, a)).2 b = a b
    by_cases q : a (42 + 2 * x.toNatClampNeg) 1 = -1
    · rw [if_pos q]
    rw [if_neg q]
    by_cases q2 : a (42 + 2 * x.toNatClampNeg) 1 = y
    · rw [if_pos q2]; exact c_things_hi _ _ _ _ _ hK.1 b hb
    · rw [if_neg q2]

theorem law_152 {fz fd : Int32 → Int32} (hz : z_lcg fz fd) {L d i n t m c : Nat} {xs : Nat → Int32} {σ : zSg} {τ : Nat → Nat → Int64} {r : Option Nat} {Q : zRQ} (hd : 60 ≤ d) (hL : L ≤ 3072) (hi : i + 6 ≤ L) (h : INV σ σ n t m c) (K : LK7 L xs d i Q) : zT (L, xs) d m_L_law Q 0 0 152 [some (.ref 1000003), some (.ref 0), some (.ref 50), some (.int (nI i))] [] L0 (mm σ τ r) := by
  have hK := h.ck
  have h1 : INV σ (u_set σ n (z_of (L, xs) (1000003 - 1000000) (i + 1)) (z_of (L, xs) (1000003 - 1000000) (i + 2)) (z_of (L, xs) (1000003 - 1000000) (i + 3))) n t m c := h.q CEQ.rf (set_hi h.1.1.1).rq
  have hon : ∀ k, k < 6 → i + k < z_on (L, xs) (1000003 - 1000000) := fun k hk => (show i + k < L by omega)
  have hoN : z_on (L, xs) (1000003 - 1000000) ≤ 1000000 := (show L ≤ 1000000 by omega)
  refine zT.step ct_L_law_ok ?_
  refine zT.step ct_L_law_ok ?_
  refine zT.step ct_L_law_ok ?_
  refine zT.step ct_L_law_ok ?_
  refine zT.step ct_L_law_ok ?_
  refine zT.step ct_L_law_ok ?_
  refine Exists.intro (i + 1) (And.intro ⟨nI_add i 1, ⟨by decide, by decide⟩, hon 1 (by decide), hoN⟩ ?_)
  refine zT.step ct_L_law_ok ?_
  refine zT.step ct_L_law_ok ?_
  refine zT.step ct_L_law_ok ?_
  refine zT.step ct_L_law_ok ?_
  refine zT.step ct_L_law_ok ?_
  refine Exists.intro (i + 2) (And.intro ⟨nI_add i 2, ⟨by decide, by decide⟩, hon 2 (by decide), hoN⟩ ?_)
  refine zT.step ct_L_law_ok ?_
  refine zT.step ct_L_law_ok ?_
  refine zT.step ct_L_law_ok ?_
  refine zT.step ct_L_law_ok ?_
  refine zT.step ct_L_law_ok ?_
  refine Exists.intro (i + 3) (And.intro ⟨nI_add i 3, ⟨by decide, by decide⟩, hon 3 (by decide), hoN⟩ ?_)
  refine zT.step ct_L_law_ok ?_
  refine And.intro ⟨by omega, by decide, _, rfl⟩ (zF.use (s_set (by omega) hK) ?_)
  refine zT.step ct_L_law_ok ?_
  refine zT.step ct_L_law_ok ?_
  refine zT.step ct_L_law_ok ?_
  refine zT.step ct_L_law_ok ?_
  refine zT.step ct_L_law_ok ?_
  refine zT.step ct_L_law_ok ?_
  refine Exists.intro (i + 1) (And.intro ⟨nI_add i 1, ⟨by decide, by decide⟩, hon 1 (by decide), hoN⟩ ?_)
  refine zT.step ct_L_law_ok ?_
  refine zT.step ct_L_law_ok ?_
  refine zT.step ct_L_law_ok ?_
  refine zT.step ct_L_law_ok ?_
  refine zT.step ct_L_law_ok ?_
  refine Exists.intro (i + 2) (And.intro ⟨nI_add i 2, ⟨by decide, by decide⟩, hon 2 (by decide), hoN⟩ ?_)
  refine zT.step ct_L_law_ok ?_
  refine zT.step ct_L_law_ok ?_
  refine zT.step ct_L_law_ok ?_
  refine zT.step ct_L_law_ok ?_
  refine zT.step ct_L_law_ok ?_
  refine Exists.intro (i + 3) (And.intro ⟨nI_add i 3, ⟨by decide, by decide⟩, hon 3 (by decide), hoN⟩ ?_)
  refine zT.step ct_L_law_ok ?_
  refine And.intro ⟨by omega, by decide, _, rfl⟩ (zF.use (t7_set (by omega) h1.1) ?_)
  refine zT.step ct_L_law_ok ?_
  refine And.intro (fun _ => ?_) (fun q => absurd rfl q)
  exact K _ _ _ _ _ _ _ ((h1.set).cl CEQ.rf set_lo)
theorem law_195 {fz fd : Int32 → Int32} (hz : z_lcg fz fd) {L d i n t m c : Nat} {xs : Nat → Int32} {σ : zSg} {τ : Nat → Nat → Int64} {r : Option Nat} {Q : zRQ} (hd : 60 ≤ d) (hL : L ≤ 3072) (hi : i + 6 ≤ L) (h : INV σ σ n t m c) (K : LK7 L xs d i Q) : zT (L, xs) d m_L_law Q 0 0 195 [some (.ref 1000003), some (.ref 0), some (.ref 50), some (.int (nI i))] [] L0 (mm σ τ r) := by
  have hK := h.ck
  have h1 : INV σ (u_thing σ n (z_of (L, xs) (1000003 - 1000000) (i + 1)) (z_of (L, xs) (1000003 - 1000000) (i + 2)) (z_of (L, xs) (1000003 - 1000000) (i + 3))) n t m c := h.q CEQ.rf (thing_hi h.1.1.1).rq
  obtain ⟨n', hN⟩ := h1.thing (x := (z_of (L, xs) (1000003 - 1000000) (i + 1))) (y := (z_of (L, xs) (1000003 - 1000000) (i + 2))) (z := (z_of (L, xs) (1000003 - 1000000) (i + 3)))
  have hon : ∀ k, k < 6 → i + k < z_on (L, xs) (1000003 - 1000000) := fun k hk => (show i + k < L by omega)
  have hoN : z_on (L, xs) (1000003 - 1000000) ≤ 1000000 := (show L ≤ 1000000 by omega)
  refine zT.step ct_L_law_ok ?_
  refine zT.step ct_L_law_ok ?_
  refine zT.step ct_L_law_ok ?_
  refine zT.step ct_L_law_ok ?_
  refine zT.step ct_L_law_ok ?_
  refine zT.step ct_L_law_ok ?_
  refine Exists.intro (i + 1) (And.intro ⟨nI_add i 1, ⟨by decide, by decide⟩, hon 1 (by decide), hoN⟩ ?_)
  refine zT.step ct_L_law_ok ?_
  refine zT.step ct_L_law_ok ?_
  refine zT.step ct_L_law_ok ?_
  refine zT.step ct_L_law_ok ?_
  refine zT.step ct_L_law_ok ?_
  refine Exists.intro (i + 2) (And.intro ⟨nI_add i 2, ⟨by decide, by decide⟩, hon 2 (by decide), hoN⟩ ?_)
  refine zT.step ct_L_law_ok ?_
  refine zT.step ct_L_law_ok ?_
  refine zT.step ct_L_law_ok ?_
  refine zT.step ct_L_law_ok ?_
  refine zT.step ct_L_law_ok ?_
  refine Exists.intro (i + 3) (And.intro ⟨nI_add i 3, ⟨by decide, by decide⟩, hon 3 (by decide), hoN⟩ ?_)
  refine zT.step ct_L_law_ok ?_
  refine And.intro ⟨by omega, by decide, _, rfl⟩ (zF.use (s_thing (by omega) h.1.1.1 h.2.2.2.1.1) ?_)
  refine zT.step ct_L_law_ok ?_
  refine zT.step ct_L_law_ok ?_
  refine zT.step ct_L_law_ok ?_
  refine zT.step ct_L_law_ok ?_
  refine zT.step ct_L_law_ok ?_
  refine zT.step ct_L_law_ok ?_
  refine Exists.intro (i + 1) (And.intro ⟨nI_add i 1, ⟨by decide, by decide⟩, hon 1 (by decide), hoN⟩ ?_)
  refine zT.step ct_L_law_ok ?_
  refine zT.step ct_L_law_ok ?_
  refine zT.step ct_L_law_ok ?_
  refine zT.step ct_L_law_ok ?_
  refine zT.step ct_L_law_ok ?_
  refine Exists.intro (i + 2) (And.intro ⟨nI_add i 2, ⟨by decide, by decide⟩, hon 2 (by decide), hoN⟩ ?_)
  refine zT.step ct_L_law_ok ?_
  refine zT.step ct_L_law_ok ?_
  refine zT.step ct_L_law_ok ?_
  refine zT.step ct_L_law_ok ?_
  refine zT.step ct_L_law_ok ?_
  refine Exists.intro (i + 3) (And.intro ⟨nI_add i 3, ⟨by decide, by decide⟩, hon 3 (by decide), hoN⟩ ?_)
  refine zT.step ct_L_law_ok ?_
  refine And.intro ⟨by omega, by decide, _, rfl⟩ (zF.use (t_thing (by omega) h1.1.1.1 h1.1.1.2.1) ?_)
  refine zT.step ct_L_law_ok ?_
  refine And.intro (fun _ => ?_) (fun q => absurd rfl q)
  exact K _ _ _ _ _ _ _ (hN.cl CEQ.rf thing_lo)
theorem law_271 {fz fd : Int32 → Int32} (hz : z_lcg fz fd) {L d i n t m c : Nat} {xs : Nat → Int32} {σ : zSg} {τ : Nat → Nat → Int64} {r : Option Nat} {Q : zRQ} (hd : 60 ≤ d) (hL : L ≤ 3072) (hi : i + 6 ≤ L) (h : INV σ σ n t m c) (K : LK7 L xs d i Q) : zT (L, xs) d m_L_law Q 0 0 271 [some (.ref 1000003), some (.ref 0), some (.ref 50), some (.int (nI i))] [] L0 (mm σ τ r) := by
  have hK := h.ck
  have h1 : INV σ (u_feed σ c (z_of (L, xs) (1000003 - 1000000) (i + 1))) n t m c := h.q CEQ.rf feed_hi.rq
  obtain ⟨c', hN⟩ := h1.feed (x := (z_of (L, xs) (1000003 - 1000000) (i + 1)))
  have hon : ∀ k, k < 6 → i + k < z_on (L, xs) (1000003 - 1000000) := fun k hk => (show i + k < L by omega)
  have hoN : z_on (L, xs) (1000003 - 1000000) ≤ 1000000 := (show L ≤ 1000000 by omega)
  refine zT.step ct_L_law_ok ?_
  refine zT.step ct_L_law_ok ?_
  refine zT.step ct_L_law_ok ?_
  refine zT.step ct_L_law_ok ?_
  refine zT.step ct_L_law_ok ?_
  refine zT.step ct_L_law_ok ?_
  refine Exists.intro (i + 1) (And.intro ⟨nI_add i 1, ⟨by decide, by decide⟩, hon 1 (by decide), hoN⟩ ?_)
  refine zT.step ct_L_law_ok ?_
  refine And.intro ⟨by omega, by decide, _, rfl⟩ (zF.use (s_feed (by omega) h.2.2.2.2.2.1.1 h.2.2.2.2.2.1.2.1) ?_)
  refine zT.step ct_L_law_ok ?_
  refine zT.step ct_L_law_ok ?_
  refine zT.step ct_L_law_ok ?_
  refine zT.step ct_L_law_ok ?_
  refine zT.step ct_L_law_ok ?_
  refine zT.step ct_L_law_ok ?_
  refine Exists.intro (i + 1) (And.intro ⟨nI_add i 1, ⟨by decide, by decide⟩, hon 1 (by decide), hoN⟩ ?_)
  refine zT.step ct_L_law_ok ?_
  refine And.intro ⟨by omega, by decide, _, rfl⟩ (zF.use (t_feed (by omega) h1.2.2.2.2.2.1.1 h1.2.2.2.2.2.1.2.2.1) ?_)
  refine zT.step ct_L_law_ok ?_
  refine And.intro (fun _ => ?_) (fun q => absurd rfl q)
  exact K _ _ _ _ _ _ _ (hN.cl CEQ.rf feed_lo)
theorem law_307 {fz fd : Int32 → Int32} (hz : z_lcg fz fd) {L d i n t m c : Nat} {xs : Nat → Int32} {σ : zSg} {τ : Nat → Nat → Int64} {r : Option Nat} {Q : zRQ} (hd : 60 ≤ d) (hL : L ≤ 3072) (hi : i + 6 ≤ L) (h : INV σ σ n t m c) (K : LK7 L xs d i Q) : zT (L, xs) d m_L_law Q 0 0 307 [some (.ref 1000003), some (.ref 0), some (.ref 50), some (.int (nI i))] [] L0 (mm σ τ r) := by
  have hK := h.ck
  have h1 : INV σ (u_force σ m (z_of (L, xs) (1000003 - 1000000) (i + 1))) n t m c := h.q CEQ.rf force_hi.rq
  obtain ⟨t', hN⟩ := h1.force (x := (z_of (L, xs) (1000003 - 1000000) (i + 1)))
  have hon : ∀ k, k < 6 → i + k < z_on (L, xs) (1000003 - 1000000) := fun k hk => (show i + k < L by omega)
  have hoN : z_on (L, xs) (1000003 - 1000000) ≤ 1000000 := (show L ≤ 1000000 by omega)
  refine zT.step ct_L_law_ok ?_
  refine zT.step ct_L_law_ok ?_
  refine zT.step ct_L_law_ok ?_
  refine zT.step ct_L_law_ok ?_
  refine zT.step ct_L_law_ok ?_
  refine zT.step ct_L_law_ok ?_
  refine Exists.intro (i + 1) (And.intro ⟨nI_add i 1, ⟨by decide, by decide⟩, hon 1 (by decide), hoN⟩ ?_)
  refine zT.step ct_L_law_ok ?_
  refine And.intro ⟨by omega, by decide, _, rfl⟩ (zF.use (s_force h.2.2.2.1.2.1) ?_)
  refine zT.step ct_L_law_ok ?_
  refine zT.step ct_L_law_ok ?_
  refine zT.step ct_L_law_ok ?_
  refine zT.step ct_L_law_ok ?_
  refine zT.step ct_L_law_ok ?_
  refine zT.step ct_L_law_ok ?_
  refine Exists.intro (i + 1) (And.intro ⟨nI_add i 1, ⟨by decide, by decide⟩, hon 1 (by decide), hoN⟩ ?_)
  refine zT.step ct_L_law_ok ?_
  refine And.intro ⟨by omega, by decide, _, rfl⟩ (zF.use (t_force (by omega) h1.1.1.2.2.2.1 h1.1.1.2.2.2.2.1 (h1.1.1.2.2.2.2.2.trans h1.2.2.2.1.2.2.1.symm)) ?_)
  refine zT.step ct_L_law_ok ?_
  refine And.intro (fun _ => ?_) (fun q => absurd rfl q)
  exact K _ _ _ _ _ _ _ (hN.cl CEQ.rf force_lo)
theorem law_294 {fz fd : Int32 → Int32} (hz : z_lcg fz fd) {L d i n t m c : Nat} {xs : Nat → Int32} {σ : zSg} {τ : Nat → Nat → Int64} {r : Option Nat} {Q : zRQ} (hd : 60 ≤ d) (hL : L ≤ 3072) (hi : i + 6 ≤ L) (h : INV σ σ n t m c) (K : LK7 L xs d i Q) : zT (L, xs) d m_L_law Q 0 0 294 [some (.ref 1000003), some (.ref 0), some (.ref 50), some (.int (nI i))] [] L0 (mm σ τ r) := by
  have hK := h.ck
  obtain ⟨hc, h34, -, -⟩ := h.2.2.2.2.2.1
  have h1 : INV σ (u_text (pr_E (σ 35) c) σ m c) n t m c := h.q CEQ.rf (text_hi h.1.1.2.2.2.1).rq
  obtain ⟨-, -, h6, ht⟩ := h1.2.2.2.2.2.1
  have hSL : m < 6 → ∀ q E, SLv (L, xs) (pe σ m q E) τ m c 5 0 (pr_E (σ 35) c) := fun hm q E => by
    have := SL_all (X := (L, xs)) (τ := τ) (σ := pe σ m q E) hm (by rw [pe_o _ _ _ _ _ (by omega) (by omega)]; exact h34) hc 5 (Nat.le_refl _) 0 (by decide)
    rw [pe_o σ m q E 35 (by omega) (by omega)] at this
    exact this
  have hon : ∀ k, k < 6 → i + k < z_on (L, xs) (1000003 - 1000000) := fun k hk => (show i + k < L by omega)
  have hoN : z_on (L, xs) (1000003 - 1000000) ≤ 1000000 := (show L ≤ 1000000 by omega)
  refine zT.step ct_L_law_ok ?_
  refine zT.step ct_L_law_ok ?_
  refine And.intro ⟨by omega, by decide, _, rfl⟩ (zC.use (s_text (g := pr_E (σ 35) c) (by omega) h.2.2.2.1.2.1 h.1.1.2.2.2.1 h34 hc PK.E hSL) (fun w L2 μ2 hw => ?_))
  obtain ⟨rfl, rfl, r', rfl⟩ := hw
  refine zT.step ct_L_law_ok ?_
  refine zT.step ct_L_law_ok ?_
  refine And.intro ⟨by omega, by decide, _, rfl⟩ (zC.use (t_text (by omega) h1.1 hc h6 (fun i hi => (ht i hi).1) (fun i hi => (ht i hi).2) h1.2.2.2.1.2.1) (fun w L2 μ2 hw => ?_))
  obtain ⟨rfl, rfl, σ2, τ2, m', rfl, hR, h3, hmm, hQ, e6, e7⟩ := hw
  obtain ⟨c', hN⟩ := h1.txt hR h3 hmm hQ e6 e7
  refine zT.step ct_L_law_ok ?_
  refine And.intro (fun _ => ?_) (fun q => absurd rfl q)
  exact K _ _ _ _ _ _ _ (hN.cl CEQ.rf hQ.lo)
theorem law_757 {fz fd : Int32 → Int32} (hz : z_lcg fz fd) {L d i n t m c : Nat} {xs : Nat → Int32} {σ : zSg} {τ : Nat → Nat → Int64} {r : Option Nat} {Q : zRQ} (hd : 60 ≤ d) (hL : L ≤ 3072) (hi : i + 6 ≤ L) (h : INV σ σ n t m c) (K : LK7 L xs d i Q) : zT (L, xs) d m_L_law Q 0 0 757 [some (.ref 1000003), some (.ref 0), some (.ref 50), some (.int (nI i))] [] L0 (mm σ τ r) := by
  have hK := h.ck
  have h1 : INV σ (u_kp σ n) n t m c := h.q CEQ.rf kp_hi.rq
  have hon : ∀ k, k < 6 → i + k < z_on (L, xs) (1000003 - 1000000) := fun k hk => (show i + k < L by omega)
  have hoN : z_on (L, xs) (1000003 - 1000000) ≤ 1000000 := (show L ≤ 1000000 by omega)
  refine zT.step ct_L_law_ok ?_
  refine zT.step ct_L_law_ok ?_
  refine And.intro ⟨by omega, by decide, _, rfl⟩ (zF.use (s_image (by omega) h.1.1.1 h.2.2.2.1.1) ?_)
  refine zT.step ct_L_law_ok ?_
  refine zT.step ct_L_law_ok ?_
  refine And.intro ⟨by omega, by decide, _, rfl⟩ (zF.use t_image ?_)
  rw [h1.1.1.2.1]
  refine zT.step ct_L_law_ok ?_
  refine And.intro (fun _ => ?_) (fun q => absurd rfl q)
  exact K _ _ _ _ _ _ _ ((h1.im).cl CEQ.rf im_lo)
theorem law_770 {fz fd : Int32 → Int32} (hz : z_lcg fz fd) {L d i n t m c : Nat} {xs : Nat → Int32} {σ : zSg} {τ : Nat → Nat → Int64} {r : Option Nat} {Q : zRQ} (hd : 60 ≤ d) (hL : L ≤ 3072) (hi : i + 6 ≤ L) (h : INV σ σ n t m c) (K : LK7 L xs d i Q) : zT (L, xs) d m_L_law Q 0 0 770 [some (.ref 1000003), some (.ref 0), some (.ref 50), some (.int (nI i))] [] L0 (mm σ τ r) := by
  have hK := h.ck
  have hon : ∀ k, k < 6 → i + k < z_on (L, xs) (1000003 - 1000000) := fun k hk => (show i + k < L by omega)
  have hoN : z_on (L, xs) (1000003 - 1000000) ≤ 1000000 := (show L ≤ 1000000 by omega)
  rcases h.2.2.2.2.2.2.2 with ⟨i0, s35⟩ | ⟨k, t', hi'⟩
  · refine zT.step ct_L_law_ok ?_
    refine zT.step ct_L_law_ok ?_
    refine And.intro ⟨by omega, by decide, _, rfl⟩ (zF.use (s_back (n := n) (by omega) (fun z => absurd i0 z)) ?_)
    rw [if_pos i0, if_pos i0]
    refine zT.step ct_L_law_ok ?_
    refine zT.step ct_L_law_ok ?_
    refine And.intro ⟨by omega, by decide, _, rfl⟩ (zF.use t_back ?_)
    rw [if_pos s35, if_pos s35]
    refine zT.step ct_L_law_ok ?_
    refine And.intro (fun _ => ?_) (fun q => absurd rfl q)
    exact K _ _ _ _ _ _ _ h
  · have k8 : k ≤ 8 := by have := h.1.1.1; omega
    have h1 : INV σ (u_bk σ k) n t m c := h.q CEQ.rf (bk_hi k8).rq
    have e50 : u_bk σ k 50 = σ 50 := bk_hi k8 50 (by decide)
    have e59 : u_bk σ k 59 = σ 59 := bk_hi k8 59 (by decide)
    have e35 : u_bk σ k 50 35 = nI k := (congrFun e50 35).trans hi'.2.1.2.1
    have n35 : ¬ u_bk σ k 50 35 = -1 := fun z => by
      rw [e35] at z
      have := nI_pos' (n := k) (by omega)
      rw [z] at this
      exact absurd this (by decide)
    refine zT.step ct_L_law_ok ?_
    refine zT.step ct_L_law_ok ?_
    refine And.intro ⟨by omega, by decide, _, rfl⟩ (zF.use (s_back (n := k) (by omega) (fun _ => ⟨k8, hi'.2.1.1⟩)) ?_)
    rw [if_neg hi'.1.1, if_neg hi'.1.1]
    refine zT.step ct_L_law_ok ?_
    refine zT.step ct_L_law_ok ?_
    refine And.intro ⟨by omega, by decide, _, rfl⟩ (zF.use t_back ?_)
    rw [if_neg n35, if_neg n35, e35]
    refine zT.step ct_L_law_ok ?_
    refine And.intro (fun _ => ?_) (fun q => absurd rfl q)
    exact K _ _ _ _ _ _ _ ((h1.bk (k := k) (t' := t') (by rw [e50, e59]; exact hi')).cl CEQ.rf bk_lo)
theorem law_806 {fz fd : Int32 → Int32} (hz : z_lcg fz fd) {L d i n t m c : Nat} {xs : Nat → Int32} {σ : zSg} {τ : Nat → Nat → Int64} {r : Option Nat} {Q : zRQ} (hd : 60 ≤ d) (hL : L ≤ 3072) (hi : i + 6 ≤ L) (h : INV σ σ n t m c) (K : LK7 L xs d i Q) : zT (L, xs) d m_L_law Q 0 0 806 [some (.ref 1000003), some (.ref 0), some (.ref 50), some (.int (nI i))] [] L0 (mm σ τ r) := by
  have hK := h.ck
  have h1 : INV σ (u_sheet σ (z_of (L, xs) (1000003 - 1000000) (i + 1)) (z_of (L, xs) (1000003 - 1000000) (i + 2)) (z_of (L, xs) (1000003 - 1000000) (i + 3))) n t m c := h.q CEQ.rf sheet_hi.rq
  have hon : ∀ k, k < 6 → i + k < z_on (L, xs) (1000003 - 1000000) := fun k hk => (show i + k < L by omega)
  have hoN : z_on (L, xs) (1000003 - 1000000) ≤ 1000000 := (show L ≤ 1000000 by omega)
  refine zT.step ct_L_law_ok ?_
  refine zT.step ct_L_law_ok ?_
  refine zT.step ct_L_law_ok ?_
  refine zT.step ct_L_law_ok ?_
  refine zT.step ct_L_law_ok ?_
  refine zT.step ct_L_law_ok ?_
  refine Exists.intro (i + 1) (And.intro ⟨nI_add i 1, ⟨by decide, by decide⟩, hon 1 (by decide), hoN⟩ ?_)
  refine zT.step ct_L_law_ok ?_
  refine zT.step ct_L_law_ok ?_
  refine zT.step ct_L_law_ok ?_
  refine zT.step ct_L_law_ok ?_
  refine zT.step ct_L_law_ok ?_
  refine Exists.intro (i + 2) (And.intro ⟨nI_add i 2, ⟨by decide, by decide⟩, hon 2 (by decide), hoN⟩ ?_)
  refine zT.step ct_L_law_ok ?_
  refine zT.step ct_L_law_ok ?_
  refine zT.step ct_L_law_ok ?_
  refine zT.step ct_L_law_ok ?_
  refine zT.step ct_L_law_ok ?_
  refine Exists.intro (i + 3) (And.intro ⟨nI_add i 3, ⟨by decide, by decide⟩, hon 3 (by decide), hoN⟩ ?_)
  refine zT.step ct_L_law_ok ?_
  refine And.intro ⟨by omega, by decide, _, rfl⟩ (zF.use (s_sheet (by omega)) ?_)
  refine zT.step ct_L_law_ok ?_
  refine zT.step ct_L_law_ok ?_
  refine zT.step ct_L_law_ok ?_
  refine zT.step ct_L_law_ok ?_
  refine zT.step ct_L_law_ok ?_
  refine zT.step ct_L_law_ok ?_
  refine Exists.intro (i + 1) (And.intro ⟨nI_add i 1, ⟨by decide, by decide⟩, hon 1 (by decide), hoN⟩ ?_)
  refine zT.step ct_L_law_ok ?_
  refine zT.step ct_L_law_ok ?_
  refine zT.step ct_L_law_ok ?_
  refine zT.step ct_L_law_ok ?_
  refine zT.step ct_L_law_ok ?_
  refine Exists.intro (i + 2) (And.intro ⟨nI_add i 2, ⟨by decide, by decide⟩, hon 2 (by decide), hoN⟩ ?_)
  refine zT.step ct_L_law_ok ?_
  refine zT.step ct_L_law_ok ?_
  refine zT.step ct_L_law_ok ?_
  refine zT.step ct_L_law_ok ?_
  refine zT.step ct_L_law_ok ?_
  refine Exists.intro (i + 3) (And.intro ⟨nI_add i 3, ⟨by decide, by decide⟩, hon 3 (by decide), hoN⟩ ?_)
  refine zT.step ct_L_law_ok ?_
  refine And.intro ⟨by omega, by decide, _, rfl⟩ (zC.use (t_sheet (by omega) h1.2.1) (fun w L2 μ2 hw => ?_))
  obtain ⟨rfl, rfl, σ2, rfl, hS2, -, hO⟩ := hw
  refine zT.step ct_L_law_ok ?_
  refine And.intro (fun _ => ?_) (fun q => absurd rfl q)
  exact K _ _ _ _ _ _ _ ((h1.sh hS2 (h.2.2.2.2.1.sheet).2 (h.2.2.2.2.1.sheet).1 hO.1).cl CEQ.rf hO.1.lo)
theorem law_849 {fz fd : Int32 → Int32} (hz : z_lcg fz fd) {L d i n t m c : Nat} {xs : Nat → Int32} {σ : zSg} {τ : Nat → Nat → Int64} {r : Option Nat} {Q : zRQ} (hd : 60 ≤ d) (hL : L ≤ 3072) (hi : i + 6 ≤ L) (h : INV σ σ n t m c) (K : LK7 L xs d i Q) : zT (L, xs) d m_L_law Q 0 0 849 [some (.ref 1000003), some (.ref 0), some (.ref 50), some (.int (nI i))] [] L0 (mm σ τ r) := by
  have hK := h.ck
  have h1 : INV σ (u_cell σ (z_of (L, xs) (1000003 - 1000000) (i + 1)) (z_of (L, xs) (1000003 - 1000000) (i + 2)) (z_of (L, xs) (1000003 - 1000000) (i + 3))) n t m c := h.q CEQ.rf cell_hi.rq
  have hon : ∀ k, k < 6 → i + k < z_on (L, xs) (1000003 - 1000000) := fun k hk => (show i + k < L by omega)
  have hoN : z_on (L, xs) (1000003 - 1000000) ≤ 1000000 := (show L ≤ 1000000 by omega)
  refine zT.step ct_L_law_ok ?_
  refine zT.step ct_L_law_ok ?_
  refine zT.step ct_L_law_ok ?_
  refine zT.step ct_L_law_ok ?_
  refine zT.step ct_L_law_ok ?_
  refine zT.step ct_L_law_ok ?_
  refine Exists.intro (i + 1) (And.intro ⟨nI_add i 1, ⟨by decide, by decide⟩, hon 1 (by decide), hoN⟩ ?_)
  refine zT.step ct_L_law_ok ?_
  refine zT.step ct_L_law_ok ?_
  refine zT.step ct_L_law_ok ?_
  refine zT.step ct_L_law_ok ?_
  refine zT.step ct_L_law_ok ?_
  refine Exists.intro (i + 2) (And.intro ⟨nI_add i 2, ⟨by decide, by decide⟩, hon 2 (by decide), hoN⟩ ?_)
  refine zT.step ct_L_law_ok ?_
  refine zT.step ct_L_law_ok ?_
  refine zT.step ct_L_law_ok ?_
  refine zT.step ct_L_law_ok ?_
  refine zT.step ct_L_law_ok ?_
  refine Exists.intro (i + 3) (And.intro ⟨nI_add i 3, ⟨by decide, by decide⟩, hon 3 (by decide), hoN⟩ ?_)
  refine zT.step ct_L_law_ok ?_
  refine And.intro ⟨by omega, by decide, _, rfl⟩ (zF.use (s_cell (by omega) h.2.2.2.2.1) ?_)
  refine zT.step ct_L_law_ok ?_
  refine zT.step ct_L_law_ok ?_
  refine zT.step ct_L_law_ok ?_
  refine zT.step ct_L_law_ok ?_
  refine zT.step ct_L_law_ok ?_
  refine zT.step ct_L_law_ok ?_
  refine Exists.intro (i + 1) (And.intro ⟨nI_add i 1, ⟨by decide, by decide⟩, hon 1 (by decide), hoN⟩ ?_)
  refine zT.step ct_L_law_ok ?_
  refine zT.step ct_L_law_ok ?_
  refine zT.step ct_L_law_ok ?_
  refine zT.step ct_L_law_ok ?_
  refine zT.step ct_L_law_ok ?_
  refine Exists.intro (i + 2) (And.intro ⟨nI_add i 2, ⟨by decide, by decide⟩, hon 2 (by decide), hoN⟩ ?_)
  refine zT.step ct_L_law_ok ?_
  refine zT.step ct_L_law_ok ?_
  refine zT.step ct_L_law_ok ?_
  refine zT.step ct_L_law_ok ?_
  refine zT.step ct_L_law_ok ?_
  refine Exists.intro (i + 3) (And.intro ⟨nI_add i 3, ⟨by decide, by decide⟩, hon 3 (by decide), hoN⟩ ?_)
  refine zT.step ct_L_law_ok ?_
  refine And.intro ⟨by omega, by decide, _, rfl⟩ (zC.use (t_cell (by omega) h1.2.1) (fun w L2 μ2 hw => ?_))
  obtain ⟨rfl, rfl, σ2, rfl, hS2, hO⟩ := hw
  refine zT.step ct_L_law_ok ?_
  refine And.intro (fun _ => ?_) (fun q => absurd rfl q)
  exact K _ _ _ _ _ _ _ ((h1.sh hS2 (h.2.2.2.2.1.cell).2 (h.2.2.2.2.1.cell).1 hO).cl CEQ.rf hO.lo)
theorem law_892 {fz fd : Int32 → Int32} (hz : z_lcg fz fd) {L d i n t m c : Nat} {xs : Nat → Int32} {σ : zSg} {τ : Nat → Nat → Int64} {r : Option Nat} {Q : zRQ} (hd : 60 ≤ d) (hL : L ≤ 3072) (hi : i + 6 ≤ L) (h : INV σ σ n t m c) (K : LK7 L xs d i Q) : zT (L, xs) d m_L_law Q 0 0 892 [some (.ref 1000003), some (.ref 0), some (.ref 50), some (.int (nI i))] [] L0 (mm σ τ r) := by
  have hK := h.ck
  have h1 : INV σ (u_copy σ (z_of (L, xs) (1000003 - 1000000) (i + 1)) (z_of (L, xs) (1000003 - 1000000) (i + 2)) (z_of (L, xs) (1000003 - 1000000) (i + 3)) (z_of (L, xs) (1000003 - 1000000) (i + 4)) (z_of (L, xs) (1000003 - 1000000) (i + 5))) n t m c := h.q CEQ.rf copy_hi.rq
  have hon : ∀ k, k < 6 → i + k < z_on (L, xs) (1000003 - 1000000) := fun k hk => (show i + k < L by omega)
  have hoN : z_on (L, xs) (1000003 - 1000000) ≤ 1000000 := (show L ≤ 1000000 by omega)
  refine zT.step ct_L_law_ok ?_
  refine zT.step ct_L_law_ok ?_
  refine zT.step ct_L_law_ok ?_
  refine zT.step ct_L_law_ok ?_
  refine zT.step ct_L_law_ok ?_
  refine zT.step ct_L_law_ok ?_
  refine Exists.intro (i + 1) (And.intro ⟨nI_add i 1, ⟨by decide, by decide⟩, hon 1 (by decide), hoN⟩ ?_)
  refine zT.step ct_L_law_ok ?_
  refine zT.step ct_L_law_ok ?_
  refine zT.step ct_L_law_ok ?_
  refine zT.step ct_L_law_ok ?_
  refine zT.step ct_L_law_ok ?_
  refine Exists.intro (i + 2) (And.intro ⟨nI_add i 2, ⟨by decide, by decide⟩, hon 2 (by decide), hoN⟩ ?_)
  refine zT.step ct_L_law_ok ?_
  refine zT.step ct_L_law_ok ?_
  refine zT.step ct_L_law_ok ?_
  refine zT.step ct_L_law_ok ?_
  refine zT.step ct_L_law_ok ?_
  refine Exists.intro (i + 3) (And.intro ⟨nI_add i 3, ⟨by decide, by decide⟩, hon 3 (by decide), hoN⟩ ?_)
  refine zT.step ct_L_law_ok ?_
  refine zT.step ct_L_law_ok ?_
  refine zT.step ct_L_law_ok ?_
  refine zT.step ct_L_law_ok ?_
  refine zT.step ct_L_law_ok ?_
  refine Exists.intro (i + 4) (And.intro ⟨nI_add i 4, ⟨by decide, by decide⟩, hon 4 (by decide), hoN⟩ ?_)
  refine zT.step ct_L_law_ok ?_
  refine zT.step ct_L_law_ok ?_
  refine zT.step ct_L_law_ok ?_
  refine zT.step ct_L_law_ok ?_
  refine zT.step ct_L_law_ok ?_
  refine Exists.intro (i + 5) (And.intro ⟨nI_add i 5, ⟨by decide, by decide⟩, hon 5 (by decide), hoN⟩ ?_)
  refine zT.step ct_L_law_ok ?_
  refine And.intro ⟨by omega, by decide, _, rfl⟩ (zF.use (s_copy (by omega) h.2.2.2.2.1) ?_)
  refine zT.step ct_L_law_ok ?_
  refine zT.step ct_L_law_ok ?_
  refine zT.step ct_L_law_ok ?_
  refine zT.step ct_L_law_ok ?_
  refine zT.step ct_L_law_ok ?_
  refine zT.step ct_L_law_ok ?_
  refine Exists.intro (i + 1) (And.intro ⟨nI_add i 1, ⟨by decide, by decide⟩, hon 1 (by decide), hoN⟩ ?_)
  refine zT.step ct_L_law_ok ?_
  refine zT.step ct_L_law_ok ?_
  refine zT.step ct_L_law_ok ?_
  refine zT.step ct_L_law_ok ?_
  refine zT.step ct_L_law_ok ?_
  refine Exists.intro (i + 2) (And.intro ⟨nI_add i 2, ⟨by decide, by decide⟩, hon 2 (by decide), hoN⟩ ?_)
  refine zT.step ct_L_law_ok ?_
  refine zT.step ct_L_law_ok ?_
  refine zT.step ct_L_law_ok ?_
  refine zT.step ct_L_law_ok ?_
  refine zT.step ct_L_law_ok ?_
  refine Exists.intro (i + 3) (And.intro ⟨nI_add i 3, ⟨by decide, by decide⟩, hon 3 (by decide), hoN⟩ ?_)
  refine zT.step ct_L_law_ok ?_
  refine zT.step ct_L_law_ok ?_
  refine zT.step ct_L_law_ok ?_
  refine zT.step ct_L_law_ok ?_
  refine zT.step ct_L_law_ok ?_
  refine Exists.intro (i + 4) (And.intro ⟨nI_add i 4, ⟨by decide, by decide⟩, hon 4 (by decide), hoN⟩ ?_)
  refine zT.step ct_L_law_ok ?_
  refine zT.step ct_L_law_ok ?_
  refine zT.step ct_L_law_ok ?_
  refine zT.step ct_L_law_ok ?_
  refine zT.step ct_L_law_ok ?_
  refine Exists.intro (i + 5) (And.intro ⟨nI_add i 5, ⟨by decide, by decide⟩, hon 5 (by decide), hoN⟩ ?_)
  refine zT.step ct_L_law_ok ?_
  refine And.intro ⟨by omega, by decide, _, rfl⟩ (zC.use (t_copy (by omega) h1.2.1) (fun w L2 μ2 hw => ?_))
  obtain ⟨rfl, rfl, σ2, rfl, hS2, hO⟩ := hw
  refine zT.step ct_L_law_ok ?_
  refine And.intro (fun _ => ?_) (fun q => absurd rfl q)
  exact K _ _ _ _ _ _ _ ((h1.sh hS2 (h.2.2.2.2.1.copy).2 (h.2.2.2.2.1.copy).1 hO).cl CEQ.rf hO.lo)
theorem law_647 {fz fd : Int32 → Int32} (hz : z_lcg fz fd) {L d i n t m c : Nat} {xs : Nat → Int32} {σ : zSg} {τ : Nat → Nat → Int64} {r : Option Nat} {Q : zRQ} (hd : 60 ≤ d) (hL : L ≤ 3072) (hi : i + 6 ≤ L) (h : INV σ σ n t m c) (K : LK7 L xs d i Q) : zT (L, xs) d m_L_law Q 0 0 647 [some (.ref 1000003), some (.ref 0), some (.ref 50), some (.int (nI i))] [] L0 (mm σ τ r) := by
  have hK := h.ck
  have fh : z_sz (bif rg (z_of (L, xs) (1000003 - 1000000) (i + 1)) 4 && rg (z_of (L, xs) (1000003 - 1000000) (i + 2)) n then u_film σ n t ((z_of (L, xs) (1000003 - 1000000) (i + 1))).toNatClampNeg ((z_of (L, xs) (1000003 - 1000000) (i + 2))).toNatClampNeg else σ) ∧ (∀ b, b < 42 → (bif rg (z_of (L, xs) (1000003 - 1000000) (i + 1)) 4 && rg (z_of (L, xs) (1000003 - 1000000) (i + 2)) n then u_film σ n t ((z_of (L, xs) (1000003 - 1000000) (i + 1))).toNatClampNeg ((z_of (L, xs) (1000003 - 1000000) (i + 2))).toNatClampNeg else σ) b = σ b) ∧ HI σ (bif rg (z_of (L, xs) (1000003 - 1000000) (i + 1)) 4 && rg (z_of (L, xs) (1000003 - 1000000) (i + 2)) n then u_film σ n t ((z_of (L, xs) (1000003 - 1000000) (i + 1))).toNatClampNeg ((z_of (L, xs) (1000003 - 1000000) (i + 2))).toNatClampNeg else σ) := by
    cases hb : (rg (z_of (L, xs) (1000003 - 1000000) (i + 1)) 4 && rg (z_of (L, xs) (1000003 - 1000000) (i + 2)) n) with
    | false => exact ⟨h.2.2.2.2.1, fun _ _ => rfl, fun _ _ => rfl⟩
    | true =>
      rw [Bool.and_eq_true] at hb
      exact ⟨(h.2.2.2.2.1.film).1, (h.2.2.2.2.1.film).2, shw_hi (rg_cl (by decide) hb.1)⟩
  have hon : ∀ k, k < 6 → i + k < z_on (L, xs) (1000003 - 1000000) := fun k hk => (show i + k < L by omega)
  have hoN : z_on (L, xs) (1000003 - 1000000) ≤ 1000000 := (show L ≤ 1000000 by omega)
  refine zT.step ct_L_law_ok ?_
  refine zT.step ct_L_law_ok ?_
  refine zT.step ct_L_law_ok ?_
  refine zT.step ct_L_law_ok ?_
  refine zT.step ct_L_law_ok ?_
  refine zT.step ct_L_law_ok ?_
  refine Exists.intro (i + 1) (And.intro ⟨nI_add i 1, ⟨by decide, by decide⟩, hon 1 (by decide), hoN⟩ ?_)
  refine zT.step ct_L_law_ok ?_
  refine zT.step ct_L_law_ok ?_
  refine zT.step ct_L_law_ok ?_
  refine zT.step ct_L_law_ok ?_
  refine zT.step ct_L_law_ok ?_
  refine Exists.intro (i + 2) (And.intro ⟨nI_add i 2, ⟨by decide, by decide⟩, hon 2 (by decide), hoN⟩ ?_)
  refine zT.step ct_L_law_ok ?_
  refine And.intro ⟨by omega, by decide, _, rfl⟩ (zC.use (s_film (by omega) hK) (fun w L2 μ2 hw => ?_))
  obtain ⟨rfl, rfl, σ1, rfl, s1⟩ := hw
  have h1 : INV σ σ1 n t m c := h.q CEQ.rf (HI.rq (fun b hb => (s1.hi b hb).trans (fh.2.2 b hb)))
  refine zT.step ct_L_law_ok ?_
  refine zT.step ct_L_law_ok ?_
  refine zT.step ct_L_law_ok ?_
  refine zT.step ct_L_law_ok ?_
  refine zT.step ct_L_law_ok ?_
  refine zT.step ct_L_law_ok ?_
  refine Exists.intro (i + 1) (And.intro ⟨nI_add i 1, ⟨by decide, by decide⟩, hon 1 (by decide), hoN⟩ ?_)
  refine zT.step ct_L_law_ok ?_
  refine zT.step ct_L_law_ok ?_
  refine zT.step ct_L_law_ok ?_
  refine zT.step ct_L_law_ok ?_
  refine zT.step ct_L_law_ok ?_
  refine Exists.intro (i + 2) (And.intro ⟨nI_add i 2, ⟨by decide, by decide⟩, hon 2 (by decide), hoN⟩ ?_)
  refine zT.step ct_L_law_ok ?_
  refine And.intro ⟨by omega, by decide, _, rfl⟩ (zC.use (t_film (by omega) h1.1 h1.2.1 h1.2.2.1) (fun w L2 μ2 hw => ?_))
  obtain ⟨rfl, rfl, σ2, τ2, rfl, hS2, hO⟩ := hw
  refine zT.step ct_L_law_ok ?_
  refine And.intro (fun _ => ?_) (fun q => absurd rfl q)
  exact K _ _ _ _ _ _ _ ((h1.sh hS2 fh.2.1 fh.1 hO).cl s1.ceq hO.lo)
theorem law_955 {fz fd : Int32 → Int32} (hz : z_lcg fz fd) {L d i n t m c : Nat} {xs : Nat → Int32} {σ : zSg} {τ : Nat → Nat → Int64} {r : Option Nat} {Q : zRQ} (hd : 60 ≤ d) (hL : L ≤ 3072) (hi : i + 6 ≤ L) (h : INV σ σ n t m c) (K : LK7 L xs d i Q) : zT (L, xs) d m_L_law Q 0 0 955 [some (.ref 1000003), some (.ref 0), some (.ref 50), some (.int (nI i))] [] L0 (mm σ τ r) := by
  have hK := h.ck
  have h1 : INV σ (v_things σ n (z_of (L, xs) (1000003 - 1000000) (i + 1)) (z_of (L, xs) (1000003 - 1000000) (i + 2)) (z_of (L, xs) (1000003 - 1000000) (i + 3)) (z_of (L, xs) (1000003 - 1000000) (i + 4))).2 n t m c := h.q CEQ.rf (things_hi hK).rq
  have hon : ∀ k, k < 6 → i + k < z_on (L, xs) (1000003 - 1000000) := fun k hk => (show i + k < L by omega)
  have hoN : z_on (L, xs) (1000003 - 1000000) ≤ 1000000 := (show L ≤ 1000000 by omega)
  refine zT.step ct_L_law_ok ?_
  refine zT.step ct_L_law_ok ?_
  refine zT.step ct_L_law_ok ?_
  refine zT.step ct_L_law_ok ?_
  refine zT.step ct_L_law_ok ?_
  refine zT.step ct_L_law_ok ?_
  refine Exists.intro (i + 1) (And.intro ⟨nI_add i 1, ⟨by decide, by decide⟩, hon 1 (by decide), hoN⟩ ?_)
  refine zT.step ct_L_law_ok ?_
  refine zT.step ct_L_law_ok ?_
  refine zT.step ct_L_law_ok ?_
  refine zT.step ct_L_law_ok ?_
  refine zT.step ct_L_law_ok ?_
  refine Exists.intro (i + 2) (And.intro ⟨nI_add i 2, ⟨by decide, by decide⟩, hon 2 (by decide), hoN⟩ ?_)
  refine zT.step ct_L_law_ok ?_
  refine zT.step ct_L_law_ok ?_
  refine zT.step ct_L_law_ok ?_
  refine zT.step ct_L_law_ok ?_
  refine zT.step ct_L_law_ok ?_
  refine Exists.intro (i + 3) (And.intro ⟨nI_add i 3, ⟨by decide, by decide⟩, hon 3 (by decide), hoN⟩ ?_)
  refine zT.step ct_L_law_ok ?_
  refine zT.step ct_L_law_ok ?_
  refine zT.step ct_L_law_ok ?_
  refine zT.step ct_L_law_ok ?_
  refine zT.step ct_L_law_ok ?_
  refine Exists.intro (i + 4) (And.intro ⟨nI_add i 4, ⟨by decide, by decide⟩, hon 4 (by decide), hoN⟩ ?_)
  refine zT.step ct_L_law_ok ?_
  refine And.intro ⟨by omega, by decide, _, rfl⟩ (zF.use (s_things (by omega) hK h.2.2.2.2.1) ?_)
  refine zT.step ct_L_law_ok ?_
  refine zT.step ct_L_law_ok ?_
  refine zT.step ct_L_law_ok ?_
  refine zT.step ct_L_law_ok ?_
  refine zT.step ct_L_law_ok ?_
  refine zT.step ct_L_law_ok ?_
  refine Exists.intro (i + 1) (And.intro ⟨nI_add i 1, ⟨by decide, by decide⟩, hon 1 (by decide), hoN⟩ ?_)
  refine zT.step ct_L_law_ok ?_
  refine zT.step ct_L_law_ok ?_
  refine zT.step ct_L_law_ok ?_
  refine zT.step ct_L_law_ok ?_
  refine zT.step ct_L_law_ok ?_
  refine Exists.intro (i + 2) (And.intro ⟨nI_add i 2, ⟨by decide, by decide⟩, hon 2 (by decide), hoN⟩ ?_)
  refine zT.step ct_L_law_ok ?_
  refine zT.step ct_L_law_ok ?_
  refine zT.step ct_L_law_ok ?_
  refine zT.step ct_L_law_ok ?_
  refine zT.step ct_L_law_ok ?_
  refine Exists.intro (i + 3) (And.intro ⟨nI_add i 3, ⟨by decide, by decide⟩, hon 3 (by decide), hoN⟩ ?_)
  refine zT.step ct_L_law_ok ?_
  refine zT.step ct_L_law_ok ?_
  refine zT.step ct_L_law_ok ?_
  refine zT.step ct_L_law_ok ?_
  refine zT.step ct_L_law_ok ?_
  refine Exists.intro (i + 4) (And.intro ⟨nI_add i 4, ⟨by decide, by decide⟩, hon 4 (by decide), hoN⟩ ?_)
  refine zT.step ct_L_law_ok ?_
  refine And.intro ⟨by omega, by decide, _, rfl⟩ (zC.use (t_things (by omega) h1.1 h1.2.2.2.1.1 h1.2.1) (fun w L2 μ2 hw => ?_))
  obtain ⟨rfl, rfl, σ2, n', rfl, hR, h2, hn, hA, hW⟩ := hw
  refine zT.step ct_L_law_ok ?_
  refine And.intro (fun _ => ?_) (fun q => absurd rfl q)
  exact K _ _ _ _ _ _ _ ((h1.pp hR h2 hA hW hn).cl CEQ.rf hW.lo)
