/-! the law's calls that change nothing (by lawgen.py) -/
theorem lg_self {x : Int64} : lg_cmp x x = 0 := by
  unfold lg_cmp
  rw [if_neg (fun z => by rw [gt_iff_lt, Int64.lt_iff_toInt_lt] at z; omega), if_pos rfl]
theorem SE.ceq41 {σ σ' : zSg} {g : Nat → Int32} (h : SE (z_row σ 41 g) σ') : CEQ σ σ' := ⟨fun x _ x1 x4 x5 x6 x7 x41 => (h.1 x x1 x4 x5 x6 x7).trans (z_row_n _ _ _ _ x41), fun y y9 y10 => (h.2 y y9 y10).trans (by rw [z_row_n _ _ _ _ (by decide)])⟩
theorem SE.hi41 {σ σ' : zSg} {g : Nat → Int32} (h : SE (z_row σ 41 g) σ') : HI σ σ' := fun b hb => (h.1 b (by omega) (by omega) (by omega) (by omega) (by omega)).trans (z_row_n _ _ _ _ (by omega))
/-- on from the law's loop's end -/
def LK7 (L : Nat) (xs : Nat → Int32) (d i : Nat) (Q : zRQ) : Prop := ∀ (σ' : zSg) (τ' : Nat → Nat → Int64) (r' : Option Nat) (n' t' m' c' : Nat), INV σ' σ' n' t' m' c' → zT (L, xs) d m_L_law Q 0 0 1041 [some (.ref 1000003), some (.ref 0), some (.ref 50), some (.int (nI i))] [] L0 (mm σ' τ' r')

theorem law_330 {fz fd : Int32 → Int32} (hz : z_lcg fz fd) {L d i n t m c : Nat} {xs : Nat → Int32} {σ : zSg} {τ : Nat → Nat → Int64} {r : Option Nat} {Q : zRQ} (hd : 60 ≤ d) (hL : L ≤ 3072) (hi : i + 6 ≤ L) (h : INV σ σ n t m c) (K : LK7 L xs d i Q) : zT (L, xs) d m_L_law Q 0 0 330 [some (.ref 1000003), some (.ref 0), some (.ref 50), some (.int (nI i))] [] L0 (mm σ τ r) := by
  have hK := h.ck
  have hon : ∀ k, k < 6 → i + k < z_on (L, xs) (1000003 - 1000000) := fun k hk => (show i + k < L by omega)
  have hoN : z_on (L, xs) (1000003 - 1000000) ≤ 1000000 := (show L ≤ 1000000 by omega)
  refine zT.step ct_L_law_ok ?_
  refine zT.step ct_L_law_ok ?_
  refine zT.step ct_L_law_ok ?_
  refine zT.step ct_L_law_ok ?_
  refine zT.step ct_L_law_ok ?_
  refine zT.step ct_L_law_ok ?_
  refine Exists.intro (i + 1) (And.intro ⟨nI_add i 1, ⟨by decide, by decide⟩, hon 1 (by decide), hoN⟩ ?_)
  refine zT.step ct_L_law_ok ?_
  refine zT.step ct_L_law_ok ?_
  refine zT.step ct_L_law_ok ?_
  refine zT.step ct_L_law_ok ?_
  refine zT.step ct_L_law_ok ?_
  refine Exists.intro (i + 2) (And.intro ⟨nI_add i 2, ⟨by decide, by decide⟩, hon 2 (by decide), hoN⟩ ?_)
  refine zT.step ct_L_law_ok ?_
  refine zT.step ct_L_law_ok ?_
  refine zT.step ct_L_law_ok ?_
  refine zT.step ct_L_law_ok ?_
  refine zT.step ct_L_law_ok ?_
  refine Exists.intro (i + 3) (And.intro ⟨nI_add i 3, ⟨by decide, by decide⟩, hon 3 (by decide), hoN⟩ ?_)
  refine zT.step ct_L_law_ok ?_
  refine And.intro ⟨by omega, by decide, _, rfl⟩ (zC.use (s_hour (by omega) hK) (fun w L2 μ2 hw => ?_))
  obtain ⟨rfl, rfl, σ1, rfl, s1⟩ := hw
  have h1 : INV σ σ1 n t m c := h.q CEQ.rf s1.hi.rq
  refine zT.step ct_L_law_ok ?_
  refine zT.step ct_L_law_ok ?_
  refine zT.step ct_L_law_ok ?_
  refine zT.step ct_L_law_ok ?_
  refine zT.step ct_L_law_ok ?_
  refine zT.step ct_L_law_ok ?_
  refine Exists.intro (i + 1) (And.intro ⟨nI_add i 1, ⟨by decide, by decide⟩, hon 1 (by decide), hoN⟩ ?_)
  refine zT.step ct_L_law_ok ?_
  refine zT.step ct_L_law_ok ?_
  refine zT.step ct_L_law_ok ?_
  refine zT.step ct_L_law_ok ?_
  refine zT.step ct_L_law_ok ?_
  refine Exists.intro (i + 2) (And.intro ⟨nI_add i 2, ⟨by decide, by decide⟩, hon 2 (by decide), hoN⟩ ?_)
  refine zT.step ct_L_law_ok ?_
  refine zT.step ct_L_law_ok ?_
  refine zT.step ct_L_law_ok ?_
  refine zT.step ct_L_law_ok ?_
  refine zT.step ct_L_law_ok ?_
  refine Exists.intro (i + 3) (And.intro ⟨nI_add i 3, ⟨by decide, by decide⟩, hon 3 (by decide), hoN⟩ ?_)
  refine zT.step ct_L_law_ok ?_
  refine And.intro ⟨by omega, by decide, _, rfl⟩ (zC.use (t_hour (by omega) h1.1 h1.2.2.1) (fun w L2 μ2 hw => ?_))
  obtain ⟨rfl, rfl, σ2, τ2, rfl, s2⟩ := hw
  refine zT.step ct_L_law_ok ?_
  refine And.intro (fun _ => ?_) (fun q => absurd rfl q)
  exact K _ _ _ _ _ _ _ (h.q (s1.ceq.trans s2.lo.ceq) (s1.hi.rq.trans s2.rq))
theorem law_373 {fz fd : Int32 → Int32} (hz : z_lcg fz fd) {L d i n t m c : Nat} {xs : Nat → Int32} {σ : zSg} {τ : Nat → Nat → Int64} {r : Option Nat} {Q : zRQ} (hd : 60 ≤ d) (hL : L ≤ 3072) (hi : i + 6 ≤ L) (h : INV σ σ n t m c) (K : LK7 L xs d i Q) : zT (L, xs) d m_L_law Q 0 0 373 [some (.ref 1000003), some (.ref 0), some (.ref 50), some (.int (nI i))] [] L0 (mm σ τ r) := by
  have hK := h.ck
  have hon : ∀ k, k < 6 → i + k < z_on (L, xs) (1000003 - 1000000) := fun k hk => (show i + k < L by omega)
  have hoN : z_on (L, xs) (1000003 - 1000000) ≤ 1000000 := (show L ≤ 1000000 by omega)
  refine zT.step ct_L_law_ok ?_
  refine zT.step ct_L_law_ok ?_
  refine zT.step ct_L_law_ok ?_
  refine zT.step ct_L_law_ok ?_
  refine zT.step ct_L_law_ok ?_
  refine zT.step ct_L_law_ok ?_
  refine Exists.intro (i + 1) (And.intro ⟨nI_add i 1, ⟨by decide, by decide⟩, hon 1 (by decide), hoN⟩ ?_)
  refine zT.step ct_L_law_ok ?_
  refine And.intro ⟨by omega, by decide, _, rfl⟩ (zC.use (s_takes (by omega) hK) (fun w L2 μ2 hw => ?_))
  obtain ⟨rfl, rfl, σ1, rfl, s1⟩ := hw
  have h1 : INV σ σ1 n t m c := h.q CEQ.rf s1.hi.rq
  refine zT.step ct_L_law_ok ?_
  refine zT.step ct_L_law_ok ?_
  refine zT.step ct_L_law_ok ?_
  refine zT.step ct_L_law_ok ?_
  refine zT.step ct_L_law_ok ?_
  refine zT.step ct_L_law_ok ?_
  refine Exists.intro (i + 1) (And.intro ⟨nI_add i 1, ⟨by decide, by decide⟩, hon 1 (by decide), hoN⟩ ?_)
  refine zT.step ct_L_law_ok ?_
  refine And.intro ⟨by omega, by decide, _, rfl⟩ (zC.use (t_takes (by omega) h1.1 h1.2.2.1) (fun w L2 μ2 hw => ?_))
  obtain ⟨rfl, rfl, σ2, τ2, rfl, s2⟩ := hw
  refine zT.step ct_L_law_ok ?_
  refine And.intro (fun _ => ?_) (fun q => absurd rfl q)
  exact K _ _ _ _ _ _ _ (h.q (s1.ceq.trans s2.lo.ceq) (s1.hi.rq.trans s2.rq))
theorem law_396 {fz fd : Int32 → Int32} (hz : z_lcg fz fd) {L d i n t m c : Nat} {xs : Nat → Int32} {σ : zSg} {τ : Nat → Nat → Int64} {r : Option Nat} {Q : zRQ} (hd : 60 ≤ d) (hL : L ≤ 3072) (hi : i + 6 ≤ L) (h : INV σ σ n t m c) (K : LK7 L xs d i Q) : zT (L, xs) d m_L_law Q 0 0 396 [some (.ref 1000003), some (.ref 0), some (.ref 50), some (.int (nI i))] [] L0 (mm σ τ r) := by
  have hK := h.ck
  have hon : ∀ k, k < 6 → i + k < z_on (L, xs) (1000003 - 1000000) := fun k hk => (show i + k < L by omega)
  have hoN : z_on (L, xs) (1000003 - 1000000) ≤ 1000000 := (show L ≤ 1000000 by omega)
  refine zT.step ct_L_law_ok ?_
  refine zT.step ct_L_law_ok ?_
  refine zT.step ct_L_law_ok ?_
  refine zT.step ct_L_law_ok ?_
  refine zT.step ct_L_law_ok ?_
  refine zT.step ct_L_law_ok ?_
  refine Exists.intro (i + 1) (And.intro ⟨nI_add i 1, ⟨by decide, by decide⟩, hon 1 (by decide), hoN⟩ ?_)
  refine zT.step ct_L_law_ok ?_
  refine And.intro ⟨by omega, by decide, _, rfl⟩ (zC.use (s_dark (by omega) hK) (fun w L2 μ2 hw => ?_))
  obtain ⟨rfl, rfl, σ1, rfl, s1⟩ := hw
  have h1 : INV σ σ1 n t m c := h.q CEQ.rf s1.hi.rq
  refine zT.step ct_L_law_ok ?_
  refine zT.step ct_L_law_ok ?_
  refine zT.step ct_L_law_ok ?_
  refine zT.step ct_L_law_ok ?_
  refine zT.step ct_L_law_ok ?_
  refine zT.step ct_L_law_ok ?_
  refine Exists.intro (i + 1) (And.intro ⟨nI_add i 1, ⟨by decide, by decide⟩, hon 1 (by decide), hoN⟩ ?_)
  refine zT.step ct_L_law_ok ?_
  refine And.intro ⟨by omega, by decide, _, rfl⟩ (zC.use (t_dark (by omega) h1.1 h1.2.2.1) (fun w L2 μ2 hw => ?_))
  obtain ⟨rfl, rfl, σ2, τ2, rfl, s2⟩ := hw
  refine zT.step ct_L_law_ok ?_
  refine And.intro (fun _ => ?_) (fun q => absurd rfl q)
  exact K _ _ _ _ _ _ _ (h.q (s1.ceq.trans s2.lo.ceq) (s1.hi.rq.trans s2.rq))
theorem law_419 {fz fd : Int32 → Int32} (hz : z_lcg fz fd) {L d i n t m c : Nat} {xs : Nat → Int32} {σ : zSg} {τ : Nat → Nat → Int64} {r : Option Nat} {Q : zRQ} (hd : 60 ≤ d) (hL : L ≤ 3072) (hi : i + 6 ≤ L) (h : INV σ σ n t m c) (K : LK7 L xs d i Q) : zT (L, xs) d m_L_law Q 0 0 419 [some (.ref 1000003), some (.ref 0), some (.ref 50), some (.int (nI i))] [] L0 (mm σ τ r) := by
  have hK := h.ck
  have hon : ∀ k, k < 6 → i + k < z_on (L, xs) (1000003 - 1000000) := fun k hk => (show i + k < L by omega)
  have hoN : z_on (L, xs) (1000003 - 1000000) ≤ 1000000 := (show L ≤ 1000000 by omega)
  refine zT.step ct_L_law_ok ?_
  refine zT.step ct_L_law_ok ?_
  refine zT.step ct_L_law_ok ?_
  refine zT.step ct_L_law_ok ?_
  refine zT.step ct_L_law_ok ?_
  refine zT.step ct_L_law_ok ?_
  refine Exists.intro (i + 1) (And.intro ⟨nI_add i 1, ⟨by decide, by decide⟩, hon 1 (by decide), hoN⟩ ?_)
  refine zT.step ct_L_law_ok ?_
  refine And.intro ⟨by omega, by decide, _, rfl⟩ (zC.use (s_hours (by omega) hK) (fun w L2 μ2 hw => ?_))
  obtain ⟨rfl, rfl, σ1, rfl, s1⟩ := hw
  have h1 : INV σ σ1 n t m c := h.q CEQ.rf s1.hi.rq
  refine zT.step ct_L_law_ok ?_
  refine zT.step ct_L_law_ok ?_
  refine zT.step ct_L_law_ok ?_
  refine zT.step ct_L_law_ok ?_
  refine zT.step ct_L_law_ok ?_
  refine zT.step ct_L_law_ok ?_
  refine Exists.intro (i + 1) (And.intro ⟨nI_add i 1, ⟨by decide, by decide⟩, hon 1 (by decide), hoN⟩ ?_)
  refine zT.step ct_L_law_ok ?_
  refine And.intro ⟨by omega, by decide, _, rfl⟩ (zC.use (t_hours (by omega) h1.1 h1.2.2.1) (fun w L2 μ2 hw => ?_))
  obtain ⟨rfl, rfl, σ2, τ2, rfl, s2⟩ := hw
  refine zT.step ct_L_law_ok ?_
  refine And.intro (fun _ => ?_) (fun q => absurd rfl q)
  exact K _ _ _ _ _ _ _ (h.q (s1.ceq.trans s2.lo.ceq) (s1.hi.rq.trans s2.rq))
theorem law_442 {fz fd : Int32 → Int32} (hz : z_lcg fz fd) {L d i n t m c : Nat} {xs : Nat → Int32} {σ : zSg} {τ : Nat → Nat → Int64} {r : Option Nat} {Q : zRQ} (hd : 60 ≤ d) (hL : L ≤ 3072) (hi : i + 6 ≤ L) (h : INV σ σ n t m c) (K : LK7 L xs d i Q) : zT (L, xs) d m_L_law Q 0 0 442 [some (.ref 1000003), some (.ref 0), some (.ref 50), some (.int (nI i))] [] L0 (mm σ τ r) := by
  have hK := h.ck
  have hon : ∀ k, k < 6 → i + k < z_on (L, xs) (1000003 - 1000000) := fun k hk => (show i + k < L by omega)
  have hoN : z_on (L, xs) (1000003 - 1000000) ≤ 1000000 := (show L ≤ 1000000 by omega)
  refine zT.step ct_L_law_ok ?_
  refine zT.step ct_L_law_ok ?_
  refine zT.step ct_L_law_ok ?_
  refine zT.step ct_L_law_ok ?_
  refine zT.step ct_L_law_ok ?_
  refine zT.step ct_L_law_ok ?_
  refine Exists.intro (i + 1) (And.intro ⟨nI_add i 1, ⟨by decide, by decide⟩, hon 1 (by decide), hoN⟩ ?_)
  refine zT.step ct_L_law_ok ?_
  refine zT.step ct_L_law_ok ?_
  refine zT.step ct_L_law_ok ?_
  refine zT.step ct_L_law_ok ?_
  refine zT.step ct_L_law_ok ?_
  refine Exists.intro (i + 2) (And.intro ⟨nI_add i 2, ⟨by decide, by decide⟩, hon 2 (by decide), hoN⟩ ?_)
  refine zT.step ct_L_law_ok ?_
  refine zT.step ct_L_law_ok ?_
  refine zT.step ct_L_law_ok ?_
  refine zT.step ct_L_law_ok ?_
  refine zT.step ct_L_law_ok ?_
  refine Exists.intro (i + 3) (And.intro ⟨nI_add i 3, ⟨by decide, by decide⟩, hon 3 (by decide), hoN⟩ ?_)
  refine zT.step ct_L_law_ok ?_
  refine And.intro ⟨by omega, by decide, _, rfl⟩ (zC.use (s_best (by omega) hK) (fun w L2 μ2 hw => ?_))
  obtain ⟨rfl, rfl, σ1, rfl, s1⟩ := hw
  have h1 : INV σ σ1 n t m c := h.q CEQ.rf s1.hi.rq
  refine zT.step ct_L_law_ok ?_
  refine zT.step ct_L_law_ok ?_
  refine zT.step ct_L_law_ok ?_
  refine zT.step ct_L_law_ok ?_
  refine zT.step ct_L_law_ok ?_
  refine zT.step ct_L_law_ok ?_
  refine Exists.intro (i + 1) (And.intro ⟨nI_add i 1, ⟨by decide, by decide⟩, hon 1 (by decide), hoN⟩ ?_)
  refine zT.step ct_L_law_ok ?_
  refine zT.step ct_L_law_ok ?_
  refine zT.step ct_L_law_ok ?_
  refine zT.step ct_L_law_ok ?_
  refine zT.step ct_L_law_ok ?_
  refine Exists.intro (i + 2) (And.intro ⟨nI_add i 2, ⟨by decide, by decide⟩, hon 2 (by decide), hoN⟩ ?_)
  refine zT.step ct_L_law_ok ?_
  refine zT.step ct_L_law_ok ?_
  refine zT.step ct_L_law_ok ?_
  refine zT.step ct_L_law_ok ?_
  refine zT.step ct_L_law_ok ?_
  refine Exists.intro (i + 3) (And.intro ⟨nI_add i 3, ⟨by decide, by decide⟩, hon 3 (by decide), hoN⟩ ?_)
  refine zT.step ct_L_law_ok ?_
  refine And.intro ⟨by omega, by decide, _, rfl⟩ (zC.use (t_best (by omega) h1.1 h1.2.2.1) (fun w L2 μ2 hw => ?_))
  obtain ⟨rfl, rfl, σ2, τ2, rfl, s2⟩ := hw
  refine zT.step ct_L_law_ok ?_
  refine And.intro (fun _ => ?_) (fun q => absurd rfl q)
  exact K _ _ _ _ _ _ _ (h.q (s1.ceq.trans s2.lo.ceq) (s1.hi.rq.trans s2.rq))
theorem law_485 {fz fd : Int32 → Int32} (hz : z_lcg fz fd) {L d i n t m c : Nat} {xs : Nat → Int32} {σ : zSg} {τ : Nat → Nat → Int64} {r : Option Nat} {Q : zRQ} (hd : 60 ≤ d) (hL : L ≤ 3072) (hi : i + 6 ≤ L) (h : INV σ σ n t m c) (K : LK7 L xs d i Q) : zT (L, xs) d m_L_law Q 0 0 485 [some (.ref 1000003), some (.ref 0), some (.ref 50), some (.int (nI i))] [] L0 (mm σ τ r) := by
  have hK := h.ck
  have hon : ∀ k, k < 6 → i + k < z_on (L, xs) (1000003 - 1000000) := fun k hk => (show i + k < L by omega)
  have hoN : z_on (L, xs) (1000003 - 1000000) ≤ 1000000 := (show L ≤ 1000000 by omega)
  refine zT.step ct_L_law_ok ?_
  refine zT.step ct_L_law_ok ?_
  refine zT.step ct_L_law_ok ?_
  refine zT.step ct_L_law_ok ?_
  refine zT.step ct_L_law_ok ?_
  refine zT.step ct_L_law_ok ?_
  refine Exists.intro (i + 1) (And.intro ⟨nI_add i 1, ⟨by decide, by decide⟩, hon 1 (by decide), hoN⟩ ?_)
  refine zT.step ct_L_law_ok ?_
  refine zT.step ct_L_law_ok ?_
  refine zT.step ct_L_law_ok ?_
  refine zT.step ct_L_law_ok ?_
  refine zT.step ct_L_law_ok ?_
  refine Exists.intro (i + 2) (And.intro ⟨nI_add i 2, ⟨by decide, by decide⟩, hon 2 (by decide), hoN⟩ ?_)
  refine zT.step ct_L_law_ok ?_
  refine zT.step ct_L_law_ok ?_
  refine zT.step ct_L_law_ok ?_
  refine zT.step ct_L_law_ok ?_
  refine zT.step ct_L_law_ok ?_
  refine Exists.intro (i + 3) (And.intro ⟨nI_add i 3, ⟨by decide, by decide⟩, hon 3 (by decide), hoN⟩ ?_)
  refine zT.step ct_L_law_ok ?_
  refine And.intro ⟨by omega, by decide, _, rfl⟩ (zC.use (s_place (by omega) hK) (fun w L2 μ2 hw => ?_))
  obtain ⟨rfl, rfl, σ1, rfl, s1⟩ := hw
  have h1 : INV σ σ1 n t m c := h.q CEQ.rf s1.hi.rq
  refine zT.step ct_L_law_ok ?_
  refine zT.step ct_L_law_ok ?_
  refine zT.step ct_L_law_ok ?_
  refine zT.step ct_L_law_ok ?_
  refine zT.step ct_L_law_ok ?_
  refine zT.step ct_L_law_ok ?_
  refine Exists.intro (i + 1) (And.intro ⟨nI_add i 1, ⟨by decide, by decide⟩, hon 1 (by decide), hoN⟩ ?_)
  refine zT.step ct_L_law_ok ?_
  refine zT.step ct_L_law_ok ?_
  refine zT.step ct_L_law_ok ?_
  refine zT.step ct_L_law_ok ?_
  refine zT.step ct_L_law_ok ?_
  refine Exists.intro (i + 2) (And.intro ⟨nI_add i 2, ⟨by decide, by decide⟩, hon 2 (by decide), hoN⟩ ?_)
  refine zT.step ct_L_law_ok ?_
  refine zT.step ct_L_law_ok ?_
  refine zT.step ct_L_law_ok ?_
  refine zT.step ct_L_law_ok ?_
  refine zT.step ct_L_law_ok ?_
  refine Exists.intro (i + 3) (And.intro ⟨nI_add i 3, ⟨by decide, by decide⟩, hon 3 (by decide), hoN⟩ ?_)
  refine zT.step ct_L_law_ok ?_
  refine And.intro ⟨by omega, by decide, _, rfl⟩ (zC.use (t_place (by omega) h1.1 h1.2.2.1) (fun w L2 μ2 hw => ?_))
  obtain ⟨rfl, rfl, σ2, τ2, rfl, s2⟩ := hw
  refine zT.step ct_L_law_ok ?_
  refine And.intro (fun _ => ?_) (fun q => absurd rfl q)
  exact K _ _ _ _ _ _ _ (h.q (s1.ceq.trans s2.lo.ceq) (s1.hi.rq.trans s2.rq))
theorem law_528 {fz fd : Int32 → Int32} (hz : z_lcg fz fd) {L d i n t m c : Nat} {xs : Nat → Int32} {σ : zSg} {τ : Nat → Nat → Int64} {r : Option Nat} {Q : zRQ} (hd : 60 ≤ d) (hL : L ≤ 3072) (hi : i + 6 ≤ L) (h : INV σ σ n t m c) (K : LK7 L xs d i Q) : zT (L, xs) d m_L_law Q 0 0 528 [some (.ref 1000003), some (.ref 0), some (.ref 50), some (.int (nI i))] [] L0 (mm σ τ r) := by
  have hK := h.ck
  have hon : ∀ k, k < 6 → i + k < z_on (L, xs) (1000003 - 1000000) := fun k hk => (show i + k < L by omega)
  have hoN : z_on (L, xs) (1000003 - 1000000) ≤ 1000000 := (show L ≤ 1000000 by omega)
  refine zT.step ct_L_law_ok ?_
  refine zT.step ct_L_law_ok ?_
  refine zT.step ct_L_law_ok ?_
  refine zT.step ct_L_law_ok ?_
  refine zT.step ct_L_law_ok ?_
  refine zT.step ct_L_law_ok ?_
  refine Exists.intro (i + 1) (And.intro ⟨nI_add i 1, ⟨by decide, by decide⟩, hon 1 (by decide), hoN⟩ ?_)
  refine zT.step ct_L_law_ok ?_
  refine zT.step ct_L_law_ok ?_
  refine zT.step ct_L_law_ok ?_
  refine zT.step ct_L_law_ok ?_
  refine zT.step ct_L_law_ok ?_
  refine Exists.intro (i + 2) (And.intro ⟨nI_add i 2, ⟨by decide, by decide⟩, hon 2 (by decide), hoN⟩ ?_)
  refine zT.step ct_L_law_ok ?_
  refine zT.step ct_L_law_ok ?_
  refine zT.step ct_L_law_ok ?_
  refine zT.step ct_L_law_ok ?_
  refine zT.step ct_L_law_ok ?_
  refine Exists.intro (i + 3) (And.intro ⟨nI_add i 3, ⟨by decide, by decide⟩, hon 3 (by decide), hoN⟩ ?_)
  refine zT.step ct_L_law_ok ?_
  refine And.intro ⟨by omega, by decide, _, rfl⟩ (zC.use (s_shade (by omega) hK) (fun w L2 μ2 hw => ?_))
  obtain ⟨rfl, rfl, σ1, rfl, s1⟩ := hw
  have h1 : INV σ σ1 n t m c := h.q CEQ.rf s1.hi.rq
  refine zT.step ct_L_law_ok ?_
  refine zT.step ct_L_law_ok ?_
  refine zT.step ct_L_law_ok ?_
  refine zT.step ct_L_law_ok ?_
  refine zT.step ct_L_law_ok ?_
  refine zT.step ct_L_law_ok ?_
  refine Exists.intro (i + 1) (And.intro ⟨nI_add i 1, ⟨by decide, by decide⟩, hon 1 (by decide), hoN⟩ ?_)
  refine zT.step ct_L_law_ok ?_
  refine zT.step ct_L_law_ok ?_
  refine zT.step ct_L_law_ok ?_
  refine zT.step ct_L_law_ok ?_
  refine zT.step ct_L_law_ok ?_
  refine Exists.intro (i + 2) (And.intro ⟨nI_add i 2, ⟨by decide, by decide⟩, hon 2 (by decide), hoN⟩ ?_)
  refine zT.step ct_L_law_ok ?_
  refine zT.step ct_L_law_ok ?_
  refine zT.step ct_L_law_ok ?_
  refine zT.step ct_L_law_ok ?_
  refine zT.step ct_L_law_ok ?_
  refine Exists.intro (i + 3) (And.intro ⟨nI_add i 3, ⟨by decide, by decide⟩, hon 3 (by decide), hoN⟩ ?_)
  refine zT.step ct_L_law_ok ?_
  refine And.intro ⟨by omega, by decide, _, rfl⟩ (zC.use (t_shade (by omega) h1.1 h1.2.2.1) (fun w L2 μ2 hw => ?_))
  obtain ⟨rfl, rfl, σ2, τ2, rfl, s2⟩ := hw
  refine zT.step ct_L_law_ok ?_
  refine And.intro (fun _ => ?_) (fun q => absurd rfl q)
  exact K _ _ _ _ _ _ _ (h.q (s1.ceq.trans s2.lo.ceq) (s1.hi.rq.trans s2.rq))
theorem law_571 {fz fd : Int32 → Int32} (hz : z_lcg fz fd) {L d i n t m c : Nat} {xs : Nat → Int32} {σ : zSg} {τ : Nat → Nat → Int64} {r : Option Nat} {Q : zRQ} (hd : 60 ≤ d) (hL : L ≤ 3072) (hi : i + 6 ≤ L) (h : INV σ σ n t m c) (K : LK7 L xs d i Q) : zT (L, xs) d m_L_law Q 0 0 571 [some (.ref 1000003), some (.ref 0), some (.ref 50), some (.int (nI i))] [] L0 (mm σ τ r) := by
  have hK := h.ck
  have hon : ∀ k, k < 6 → i + k < z_on (L, xs) (1000003 - 1000000) := fun k hk => (show i + k < L by omega)
  have hoN : z_on (L, xs) (1000003 - 1000000) ≤ 1000000 := (show L ≤ 1000000 by omega)
  refine zT.step ct_L_law_ok ?_
  refine zT.step ct_L_law_ok ?_
  refine zT.step ct_L_law_ok ?_
  refine zT.step ct_L_law_ok ?_
  refine zT.step ct_L_law_ok ?_
  refine zT.step ct_L_law_ok ?_
  refine Exists.intro (i + 1) (And.intro ⟨nI_add i 1, ⟨by decide, by decide⟩, hon 1 (by decide), hoN⟩ ?_)
  refine zT.step ct_L_law_ok ?_
  refine zT.step ct_L_law_ok ?_
  refine zT.step ct_L_law_ok ?_
  refine zT.step ct_L_law_ok ?_
  refine zT.step ct_L_law_ok ?_
  refine Exists.intro (i + 2) (And.intro ⟨nI_add i 2, ⟨by decide, by decide⟩, hon 2 (by decide), hoN⟩ ?_)
  refine zT.step ct_L_law_ok ?_
  refine And.intro ⟨by omega, by decide, _, rfl⟩ (zC.use (s_send (by omega) hK) (fun w L2 μ2 hw => ?_))
  obtain ⟨rfl, rfl, σ1, rfl, s1⟩ := hw
  have h1 : INV σ σ1 n t m c := h.q CEQ.rf s1.hi.rq
  refine zT.step ct_L_law_ok ?_
  refine zT.step ct_L_law_ok ?_
  refine zT.step ct_L_law_ok ?_
  refine zT.step ct_L_law_ok ?_
  refine zT.step ct_L_law_ok ?_
  refine zT.step ct_L_law_ok ?_
  refine Exists.intro (i + 1) (And.intro ⟨nI_add i 1, ⟨by decide, by decide⟩, hon 1 (by decide), hoN⟩ ?_)
  refine zT.step ct_L_law_ok ?_
  refine zT.step ct_L_law_ok ?_
  refine zT.step ct_L_law_ok ?_
  refine zT.step ct_L_law_ok ?_
  refine zT.step ct_L_law_ok ?_
  refine Exists.intro (i + 2) (And.intro ⟨nI_add i 2, ⟨by decide, by decide⟩, hon 2 (by decide), hoN⟩ ?_)
  refine zT.step ct_L_law_ok ?_
  refine And.intro ⟨by omega, by decide, _, rfl⟩ (zC.use (t_send (by omega) h1.1 h1.2.2.1) (fun w L2 μ2 hw => ?_))
  obtain ⟨rfl, rfl, σ2, τ2, rfl, s2⟩ := hw
  refine zT.step ct_L_law_ok ?_
  refine And.intro (fun _ => ?_) (fun q => absurd rfl q)
  exact K _ _ _ _ _ _ _ (h.q (s1.ceq.trans s2.lo.ceq) (s1.hi.rq.trans s2.rq))
theorem law_604 {fz fd : Int32 → Int32} (hz : z_lcg fz fd) {L d i n t m c : Nat} {xs : Nat → Int32} {σ : zSg} {τ : Nat → Nat → Int64} {r : Option Nat} {Q : zRQ} (hd : 60 ≤ d) (hL : L ≤ 3072) (hi : i + 6 ≤ L) (h : INV σ σ n t m c) (K : LK7 L xs d i Q) : zT (L, xs) d m_L_law Q 0 0 604 [some (.ref 1000003), some (.ref 0), some (.ref 50), some (.int (nI i))] [] L0 (mm σ τ r) := by
  have hK := h.ck
  have hon : ∀ k, k < 6 → i + k < z_on (L, xs) (1000003 - 1000000) := fun k hk => (show i + k < L by omega)
  have hoN : z_on (L, xs) (1000003 - 1000000) ≤ 1000000 := (show L ≤ 1000000 by omega)
  refine zT.step ct_L_law_ok ?_
  refine zT.step ct_L_law_ok ?_
  refine zT.step ct_L_law_ok ?_
  refine zT.step ct_L_law_ok ?_
  refine zT.step ct_L_law_ok ?_
  refine zT.step ct_L_law_ok ?_
  refine Exists.intro (i + 1) (And.intro ⟨nI_add i 1, ⟨by decide, by decide⟩, hon 1 (by decide), hoN⟩ ?_)
  refine zT.step ct_L_law_ok ?_
  refine zT.step ct_L_law_ok ?_
  refine zT.step ct_L_law_ok ?_
  refine zT.step ct_L_law_ok ?_
  refine zT.step ct_L_law_ok ?_
  refine Exists.intro (i + 2) (And.intro ⟨nI_add i 2, ⟨by decide, by decide⟩, hon 2 (by decide), hoN⟩ ?_)
  refine zT.step ct_L_law_ok ?_
  refine zT.step ct_L_law_ok ?_
  refine zT.step ct_L_law_ok ?_
  refine zT.step ct_L_law_ok ?_
  refine zT.step ct_L_law_ok ?_
  refine Exists.intro (i + 3) (And.intro ⟨nI_add i 3, ⟨by decide, by decide⟩, hon 3 (by decide), hoN⟩ ?_)
  refine zT.step ct_L_law_ok ?_
  refine And.intro ⟨by omega, by decide, _, rfl⟩ (zC.use (s_tells (by omega) hK h.2.2.2.1.2.1 h.1.1.2.2.2.1 (fun t' ht => (h.1.2.2.2.2 t' ht).len)) (fun w L2 μ2 hw => ?_))
  obtain ⟨rfl, rfl, σ1, rfl, s1⟩ := hw
  have h1 : INV σ σ1 n t m c := h.q CEQ.rf s1.hi.rq
  refine zT.step ct_L_law_ok ?_
  refine zT.step ct_L_law_ok ?_
  refine zT.step ct_L_law_ok ?_
  refine zT.step ct_L_law_ok ?_
  refine zT.step ct_L_law_ok ?_
  refine zT.step ct_L_law_ok ?_
  refine Exists.intro (i + 1) (And.intro ⟨nI_add i 1, ⟨by decide, by decide⟩, hon 1 (by decide), hoN⟩ ?_)
  refine zT.step ct_L_law_ok ?_
  refine zT.step ct_L_law_ok ?_
  refine zT.step ct_L_law_ok ?_
  refine zT.step ct_L_law_ok ?_
  refine zT.step ct_L_law_ok ?_
  refine Exists.intro (i + 2) (And.intro ⟨nI_add i 2, ⟨by decide, by decide⟩, hon 2 (by decide), hoN⟩ ?_)
  refine zT.step ct_L_law_ok ?_
  refine zT.step ct_L_law_ok ?_
  refine zT.step ct_L_law_ok ?_
  refine zT.step ct_L_law_ok ?_
  refine zT.step ct_L_law_ok ?_
  refine Exists.intro (i + 3) (And.intro ⟨nI_add i 3, ⟨by decide, by decide⟩, hon 3 (by decide), hoN⟩ ?_)
  refine zT.step ct_L_law_ok ?_
  refine And.intro ⟨by omega, by decide, _, rfl⟩ (zC.use (t_tells (by omega) h1.1 h1.2.1 h1.2.2.1) (fun w L2 μ2 hw => ?_))
  obtain ⟨rfl, rfl, σ2, τ2, rfl, s2⟩ := hw
  refine zT.step ct_L_law_ok ?_
  refine And.intro (fun _ => ?_) (fun q => absurd rfl q)
  exact K _ _ _ _ _ _ _ (h.q (s1.ceq.trans s2.lo.ceq) (s1.hi.rq.trans s2.rq))
theorem law_680 {fz fd : Int32 → Int32} (hz : z_lcg fz fd) {L d i n t m c : Nat} {xs : Nat → Int32} {σ : zSg} {τ : Nat → Nat → Int64} {r : Option Nat} {Q : zRQ} (hd : 60 ≤ d) (hL : L ≤ 3072) (hi : i + 6 ≤ L) (h : INV σ σ n t m c) (K : LK7 L xs d i Q) : zT (L, xs) d m_L_law Q 0 0 680 [some (.ref 1000003), some (.ref 0), some (.ref 50), some (.int (nI i))] [] L0 (mm σ τ r) := by
  have hK := h.ck
  have hon : ∀ k, k < 6 → i + k < z_on (L, xs) (1000003 - 1000000) := fun k hk => (show i + k < L by omega)
  have hoN : z_on (L, xs) (1000003 - 1000000) ≤ 1000000 := (show L ≤ 1000000 by omega)
  refine zT.step ct_L_law_ok ?_
  refine zT.step ct_L_law_ok ?_
  refine zT.step ct_L_law_ok ?_
  refine zT.step ct_L_law_ok ?_
  refine zT.step ct_L_law_ok ?_
  refine zT.step ct_L_law_ok ?_
  refine Exists.intro (i + 1) (And.intro ⟨nI_add i 1, ⟨by decide, by decide⟩, hon 1 (by decide), hoN⟩ ?_)
  refine zT.step ct_L_law_ok ?_
  refine And.intro ⟨by omega, by decide, _, rfl⟩ (zC.use (s_drawn hz (by omega) hK) (fun w L2 μ2 hw => ?_))
  obtain ⟨rfl, rfl, σ1, g, rfl, s1⟩ := hw
  have h1 : INV σ σ1 n t m c := h.q CEQ.rf s1.hi41.rq
  refine zT.step ct_L_law_ok ?_
  refine zT.step ct_L_law_ok ?_
  refine zT.step ct_L_law_ok ?_
  refine zT.step ct_L_law_ok ?_
  refine zT.step ct_L_law_ok ?_
  refine zT.step ct_L_law_ok ?_
  refine Exists.intro (i + 1) (And.intro ⟨nI_add i 1, ⟨by decide, by decide⟩, hon 1 (by decide), hoN⟩ ?_)
  refine zT.step ct_L_law_ok ?_
  refine And.intro ⟨by omega, by decide, _, rfl⟩ (zC.use (t_drawn hz (by omega) h1.1 h1.2.2.1) (fun w L2 μ2 hw => ?_))
  obtain ⟨rfl, rfl, σ2, τ2, rfl, s2⟩ := hw
  refine zT.step ct_L_law_ok ?_
  refine And.intro (fun _ => ?_) (fun q => absurd rfl q)
  exact K _ _ _ _ _ _ _ (h.q (s1.ceq41.trans s2.lo.ceq) (s1.hi41.rq.trans s2.rq))
theorem law_703 {fz fd : Int32 → Int32} (hz : z_lcg fz fd) {L d i n t m c : Nat} {xs : Nat → Int32} {σ : zSg} {τ : Nat → Nat → Int64} {r : Option Nat} {Q : zRQ} (hd : 60 ≤ d) (hL : L ≤ 3072) (hi : i + 6 ≤ L) (h : INV σ σ n t m c) (K : LK7 L xs d i Q) : zT (L, xs) d m_L_law Q 0 0 703 [some (.ref 1000003), some (.ref 0), some (.ref 50), some (.int (nI i))] [] L0 (mm σ τ r) := by
  have hK := h.ck
  have hon : ∀ k, k < 6 → i + k < z_on (L, xs) (1000003 - 1000000) := fun k hk => (show i + k < L by omega)
  have hoN : z_on (L, xs) (1000003 - 1000000) ≤ 1000000 := (show L ≤ 1000000 by omega)
  refine zT.step ct_L_law_ok ?_
  refine zT.step ct_L_law_ok ?_
  refine zT.step ct_L_law_ok ?_
  refine zT.step ct_L_law_ok ?_
  refine zT.step ct_L_law_ok ?_
  refine zT.step ct_L_law_ok ?_
  refine Exists.intro (i + 1) (And.intro ⟨nI_add i 1, ⟨by decide, by decide⟩, hon 1 (by decide), hoN⟩ ?_)
  refine zT.step ct_L_law_ok ?_
  refine zT.step ct_L_law_ok ?_
  refine zT.step ct_L_law_ok ?_
  refine zT.step ct_L_law_ok ?_
  refine zT.step ct_L_law_ok ?_
  refine Exists.intro (i + 2) (And.intro ⟨nI_add i 2, ⟨by decide, by decide⟩, hon 2 (by decide), hoN⟩ ?_)
  refine zT.step ct_L_law_ok ?_
  refine zT.step ct_L_law_ok ?_
  refine zT.step ct_L_law_ok ?_
  refine zT.step ct_L_law_ok ?_
  refine zT.step ct_L_law_ok ?_
  refine Exists.intro (i + 3) (And.intro ⟨nI_add i 3, ⟨by decide, by decide⟩, hon 3 (by decide), hoN⟩ ?_)
  refine zT.step ct_L_law_ok ?_
  refine zT.step ct_L_law_ok ?_
  refine zT.step ct_L_law_ok ?_
  refine zT.step ct_L_law_ok ?_
  refine zT.step ct_L_law_ok ?_
  refine Exists.intro (i + 4) (And.intro ⟨nI_add i 4, ⟨by decide, by decide⟩, hon 4 (by decide), hoN⟩ ?_)
  refine zT.step ct_L_law_ok ?_
  refine And.intro ⟨by omega, by decide, _, rfl⟩ (zC.use (s_chance hz (by omega) hK) (fun w L2 μ2 hw => ?_))
  obtain ⟨rfl, rfl, σ1, g, rfl, s1⟩ := hw
  have h1 : INV σ σ1 n t m c := h.q CEQ.rf s1.hi41.rq
  refine zT.step ct_L_law_ok ?_
  refine zT.step ct_L_law_ok ?_
  refine zT.step ct_L_law_ok ?_
  refine zT.step ct_L_law_ok ?_
  refine zT.step ct_L_law_ok ?_
  refine zT.step ct_L_law_ok ?_
  refine Exists.intro (i + 1) (And.intro ⟨nI_add i 1, ⟨by decide, by decide⟩, hon 1 (by decide), hoN⟩ ?_)
  refine zT.step ct_L_law_ok ?_
  refine zT.step ct_L_law_ok ?_
  refine zT.step ct_L_law_ok ?_
  refine zT.step ct_L_law_ok ?_
  refine zT.step ct_L_law_ok ?_
  refine Exists.intro (i + 2) (And.intro ⟨nI_add i 2, ⟨by decide, by decide⟩, hon 2 (by decide), hoN⟩ ?_)
  refine zT.step ct_L_law_ok ?_
  refine zT.step ct_L_law_ok ?_
  refine zT.step ct_L_law_ok ?_
  refine zT.step ct_L_law_ok ?_
  refine zT.step ct_L_law_ok ?_
  refine Exists.intro (i + 3) (And.intro ⟨nI_add i 3, ⟨by decide, by decide⟩, hon 3 (by decide), hoN⟩ ?_)
  refine zT.step ct_L_law_ok ?_
  refine zT.step ct_L_law_ok ?_
  refine zT.step ct_L_law_ok ?_
  refine zT.step ct_L_law_ok ?_
  refine zT.step ct_L_law_ok ?_
  refine Exists.intro (i + 4) (And.intro ⟨nI_add i 4, ⟨by decide, by decide⟩, hon 4 (by decide), hoN⟩ ?_)
  refine zT.step ct_L_law_ok ?_
  refine And.intro ⟨by omega, by decide, _, rfl⟩ (zC.use (t_chance hz (by omega) h1.1 h1.2.2.1) (fun w L2 μ2 hw => ?_))
  obtain ⟨rfl, rfl, σ2, τ2, rfl, s2⟩ := hw
  refine zT.step ct_L_law_ok ?_
  refine zT.step ct_L_law_ok ?_
  refine And.intro (fun _ => ?_) (fun q => absurd lg_self q)
  exact K _ _ _ _ _ _ _ (h.q (s1.ceq41.trans s2.lo.ceq) (s1.hi41.rq.trans s2.rq))
theorem law_238 {fz fd : Int32 → Int32} (hz : z_lcg fz fd) {L d i n t m c : Nat} {xs : Nat → Int32} {σ : zSg} {τ : Nat → Nat → Int64} {r : Option Nat} {Q : zRQ} (hd : 60 ≤ d) (hL : L ≤ 3072) (hi : i + 6 ≤ L) (h : INV σ σ n t m c) (K : LK7 L xs d i Q) : zT (L, xs) d m_L_law Q 0 0 238 [some (.ref 1000003), some (.ref 0), some (.ref 50), some (.int (nI i))] [] L0 (mm σ τ r) := by
  have hK := h.ck
  have hon : ∀ k, k < 6 → i + k < z_on (L, xs) (1000003 - 1000000) := fun k hk => (show i + k < L by omega)
  have hoN : z_on (L, xs) (1000003 - 1000000) ≤ 1000000 := (show L ≤ 1000000 by omega)
  refine zT.step ct_L_law_ok ?_
  refine zT.step ct_L_law_ok ?_
  refine zT.step ct_L_law_ok ?_
  refine zT.step ct_L_law_ok ?_
  refine zT.step ct_L_law_ok ?_
  refine zT.step ct_L_law_ok ?_
  refine Exists.intro (i + 1) (And.intro ⟨nI_add i 1, ⟨by decide, by decide⟩, hon 1 (by decide), hoN⟩ ?_)
  refine zT.step ct_L_law_ok ?_
  refine zT.step ct_L_law_ok ?_
  refine zT.step ct_L_law_ok ?_
  refine zT.step ct_L_law_ok ?_
  refine zT.step ct_L_law_ok ?_
  refine Exists.intro (i + 2) (And.intro ⟨nI_add i 2, ⟨by decide, by decide⟩, hon 2 (by decide), hoN⟩ ?_)
  refine zT.step ct_L_law_ok ?_
  refine And.intro ⟨by omega, by decide, _, rfl⟩ (zF.use (s_told (by omega) hK) ?_)
  refine zT.step ct_L_law_ok ?_
  refine zT.step ct_L_law_ok ?_
  refine zT.step ct_L_law_ok ?_
  refine zT.step ct_L_law_ok ?_
  refine zT.step ct_L_law_ok ?_
  refine zT.step ct_L_law_ok ?_
  refine Exists.intro (i + 1) (And.intro ⟨nI_add i 1, ⟨by decide, by decide⟩, hon 1 (by decide), hoN⟩ ?_)
  refine zT.step ct_L_law_ok ?_
  refine zT.step ct_L_law_ok ?_
  refine zT.step ct_L_law_ok ?_
  refine zT.step ct_L_law_ok ?_
  refine zT.step ct_L_law_ok ?_
  refine Exists.intro (i + 2) (And.intro ⟨nI_add i 2, ⟨by decide, by decide⟩, hon 2 (by decide), hoN⟩ ?_)
  refine zT.step ct_L_law_ok ?_
  refine And.intro ⟨by omega, by decide, _, rfl⟩ (zF.use (t_told (by omega) h.1) ?_)
  refine zT.step ct_L_law_ok ?_
  refine And.intro (fun _ => ?_) (fun q => absurd rfl q)
  exact K _ _ _ _ _ _ _ (h)
theorem law_1008 {fz fd : Int32 → Int32} (hz : z_lcg fz fd) {L d i n t m c : Nat} {xs : Nat → Int32} {σ : zSg} {τ : Nat → Nat → Int64} {r : Option Nat} {Q : zRQ} (hd : 60 ≤ d) (hL : L ≤ 3072) (hi : i + 6 ≤ L) (h : INV σ σ n t m c) (K : LK7 L xs d i Q) : zT (L, xs) d m_L_law Q 0 0 1008 [some (.ref 1000003), some (.ref 0), some (.ref 50), some (.int (nI i))] [] L0 (mm σ τ r) := by
  have hK := h.ck
  have hon : ∀ k, k < 6 → i + k < z_on (L, xs) (1000003 - 1000000) := fun k hk => (show i + k < L by omega)
  have hoN : z_on (L, xs) (1000003 - 1000000) ≤ 1000000 := (show L ≤ 1000000 by omega)
  refine zT.step ct_L_law_ok ?_
  refine zT.step ct_L_law_ok ?_
  refine zT.step ct_L_law_ok ?_
  refine zT.step ct_L_law_ok ?_
  refine zT.step ct_L_law_ok ?_
  refine zT.step ct_L_law_ok ?_
  refine Exists.intro (i + 1) (And.intro ⟨nI_add i 1, ⟨by decide, by decide⟩, hon 1 (by decide), hoN⟩ ?_)
  refine zT.step ct_L_law_ok ?_
  refine zT.step ct_L_law_ok ?_
  refine zT.step ct_L_law_ok ?_
  refine zT.step ct_L_law_ok ?_
  refine zT.step ct_L_law_ok ?_
  refine Exists.intro (i + 2) (And.intro ⟨nI_add i 2, ⟨by decide, by decide⟩, hon 2 (by decide), hoN⟩ ?_)
  refine zT.step ct_L_law_ok ?_
  refine And.intro ⟨by omega, by decide, _, rfl⟩ (zF.use (s_taken (by omega) hK) ?_)
  refine zT.step ct_L_law_ok ?_
  refine zT.step ct_L_law_ok ?_
  refine zT.step ct_L_law_ok ?_
  refine zT.step ct_L_law_ok ?_
  refine zT.step ct_L_law_ok ?_
  refine zT.step ct_L_law_ok ?_
  refine Exists.intro (i + 1) (And.intro ⟨nI_add i 1, ⟨by decide, by decide⟩, hon 1 (by decide), hoN⟩ ?_)
  refine zT.step ct_L_law_ok ?_
  refine zT.step ct_L_law_ok ?_
  refine zT.step ct_L_law_ok ?_
  refine zT.step ct_L_law_ok ?_
  refine zT.step ct_L_law_ok ?_
  refine Exists.intro (i + 2) (And.intro ⟨nI_add i 2, ⟨by decide, by decide⟩, hon 2 (by decide), hoN⟩ ?_)
  refine zT.step ct_L_law_ok ?_
  refine And.intro ⟨by omega, by decide, _, rfl⟩ (zF.use (t_taken (by omega) h.1) ?_)
  refine zT.step ct_L_law_ok ?_
  refine And.intro (fun _ => ?_) (fun q => absurd rfl q)
  exact K _ _ _ _ _ _ _ (h)
theorem law_783 {fz fd : Int32 → Int32} (hz : z_lcg fz fd) {L d i n t m c : Nat} {xs : Nat → Int32} {σ : zSg} {τ : Nat → Nat → Int64} {r : Option Nat} {Q : zRQ} (hd : 60 ≤ d) (hL : L ≤ 3072) (hi : i + 6 ≤ L) (h : INV σ σ n t m c) (K : LK7 L xs d i Q) : zT (L, xs) d m_L_law Q 0 0 783 [some (.ref 1000003), some (.ref 0), some (.ref 50), some (.int (nI i))] [] L0 (mm σ τ r) := by
  have hK := h.ck
  obtain ⟨q, hq, eq⟩ := h.2.2.2.2.2.2.1
  have hon : ∀ k, k < 6 → i + k < z_on (L, xs) (1000003 - 1000000) := fun k hk => (show i + k < L by omega)
  have hoN : z_on (L, xs) (1000003 - 1000000) ≤ 1000000 := (show L ≤ 1000000 by omega)
  refine zT.step ct_L_law_ok ?_
  refine zT.step ct_L_law_ok ?_
  refine zT.step ct_L_law_ok ?_
  refine zT.step ct_L_law_ok ?_
  refine zT.step ct_L_law_ok ?_
  refine zT.step ct_L_law_ok ?_
  refine Exists.intro (i + 1) (And.intro ⟨nI_add i 1, ⟨by decide, by decide⟩, hon 1 (by decide), hoN⟩ ?_)
  refine zT.step ct_L_law_ok ?_
  refine And.intro ⟨by omega, by decide, _, rfl⟩ (zF.use (s_count (by omega)) ?_)
  refine zT.step ct_L_law_ok ?_
  refine zT.step ct_L_law_ok ?_
  refine zT.step ct_L_law_ok ?_
  refine zT.step ct_L_law_ok ?_
  refine zT.step ct_L_law_ok ?_
  refine zT.step ct_L_law_ok ?_
  refine Exists.intro (i + 1) (And.intro ⟨nI_add i 1, ⟨by decide, by decide⟩, hon 1 (by decide), hoN⟩ ?_)
  refine zT.step ct_L_law_ok ?_
  refine And.intro ⟨by omega, by decide, _, rfl⟩ (zF.use (t_count (by omega) h.1 h.2.2.2.1.1 h.2.2.2.1.2.1 h.2.2.2.1.2.2.1 (h.2.2.2.2.2.1.2.2.1.trans h.2.2.2.2.2.1.2.1.symm) hq eq) ?_)
  refine zT.step ct_L_law_ok ?_
  refine And.intro (fun _ => ?_) (fun q => absurd rfl q)
  exact K _ _ _ _ _ _ _ (h)
