/-! gathers: what the reference finds is what the class finds -/
theorem bnd_n (v : Int32) (m : Nat) (hm : m < 2 ^ 31) : ∃ l, l ≤ m ∧ f_bnd v (nI m) = nI l := by
  have h0 : (0 : Int32).toInt = 0 := by decide
  have hmt := nI_toInt hm
  unfold f_bnd
  by_cases h1 : nI m < v
  · rw [if_pos h1]
    by_cases h2 : 0 < nI m
    · exact ⟨m, Nat.le_refl _, by rw [if_pos h2]⟩
    · exact ⟨0, Nat.zero_le _, by rw [if_neg h2]; rfl⟩
  · rw [if_neg h1]
    by_cases h2 : 0 < v
    · rw [if_pos h2]
      have h3 := Int32.lt_iff_toInt_lt.mp h2
      have h4 := Int32.le_iff_toInt_le.mp (Int32.not_lt.mp h1)
      refine ⟨v.toInt.toNat, by omega, Int32.toInt_inj.mp ?_⟩
      rw [nI_toInt (by omega)]
      omega
    · exact ⟨0, Nat.zero_le _, by rw [if_neg h2]; rfl⟩
theorem cL_n (a : zSg) (t h i : Nat) : ∃ l, l < 30 ∧ cL a t h i = nI l := by
  unfold cL g_L
  cases g_dull (a 1 6) h with
  | true => exact ⟨0, by decide, rfl⟩
  | false =>
    obtain ⟨l, hl, e⟩ := bnd_n (f_len (a (8 + i) 0) (a (8 + i) 1) (a (8 + i) 2 * f_bnd (tvC a t 0 (g_env (a (8 + i)) (a 1 5) h 0)) 40 / 4)) 29 (by decide)
    exact ⟨l, by omega, e⟩
/-- the cell that comes k-th from the side of the sun on -/
def cN (h k : Nat) : Nat := if h < 6 then 29 - k else k
theorem cN_lt {h k : Nat} (hk : k < 30) : cN h k < 30 := by unfold cN; split <;> omega
theorem cN_cN {h k : Nat} (hk : k < 30) : cN h (cN h k) = k := by
  unfold cN
  by_cases q : h < 6
  · rw [if_pos q, if_pos q]; omega
  · rw [if_neg q, if_neg q]
theorem cN_at {h k : Nat} (hk : k < 30) : f_at (f_mo h) k = nI (cN h k) := by
  unfold f_at f_mo cN
  by_cases q : h < 6
  · rw [if_pos q, if_pos q, if_neg (by decide)]
    show nI 29 - nI k = _
    rw [nI_sub (by omega)]
  · rw [if_neg q, if_neg q, if_pos rfl]
theorem f_mo_v (h : Nat) : f_mo h = 0 ∨ f_mo h = 1 := by unfold f_mo; split; exact Or.inr rfl; exact Or.inl rfl
theorem occ_b {on : Nat → Int32} {c : Nat} (hc : c < 30) : ∀ (n : Nat), (∀ i, i < n → ∃ k, k < 30 ∧ on i = nI k) → bt (f_occ on n) c = false → ∀ i, i < n → on i ≠ nI c := by
  intro n
  induction n with
  | zero => intro _ _ i hi; exact absurd hi (Nat.not_lt_zero i)
  | succ n ih =>
    intro hon hb i hi
    obtain ⟨k, hk, e⟩ := hon n (Nat.lt_succ_self n)
    have hb : bt (f_occ on n ||| 1 <<< (on n &&& 31)) c = false := hb
    rw [b_or, Bool.or_eq_false_iff, e, b_w (by omega) (by omega)] at hb
    by_cases hin : i = n
    · subst hin
      rw [e]
      intro q
      have := (nI_eq (by omega) (by omega)).mp q
      exact of_decide_eq_false hb.2 this.symm
    · exact ih (fun j hj => hon j (by omega)) hb.1 i (by omega)
theorem cn_skip {th : Nat → Nat → Int32} {lg : Nat → Int32} {mo aw at_ : Int32} {cv : Bool} : ∀ (m i : Nat) (s : Int32 × Int32 × Int32), (∀ j, i ≤ j → j < i + m → th j 3 ≠ at_) → f_cn th lg mo aw at_ cv m i s = s := by
  intro m
  induction m with
  | zero => intro i s _; rfl
  | succ m ih =>
    intro i s h
    have e : f_ci th lg mo aw at_ cv i s = s := by
      unfold f_ci
      by_cases h1 : nI i = aw
      · rw [if_pos h1]
      · rw [if_neg h1, if_neg (h i (Nat.le_refl _) (by omega))]
    show f_cn th lg mo aw at_ cv m (i + 1) (f_ci th lg mo aw at_ cv i s) = s
    rw [e]
    exact ih (i + 1) s (fun j h1 h2 => h j (by omega) (by omega))
theorem ck_eq {n h k : Nat} {th : Nat → Nat → Int32} {lg : Nat → Int32} {aw : Int32} {s : Int32 × Int32 × Int32} (hk : k < 30) (hon : ∀ i, i < n → ∃ c, c < 30 ∧ th i 3 = nI c) : f_ck n (f_occ (fun i => th i 3) n) th lg (f_mo h) aw k s = f_cn th lg (f_mo h) aw (nI (cN h k)) (bt s.2.2 (cN h k)) n 0 s := by
  have hc := cN_lt (h := h) hk
  unfold f_ck
  rw [cN_at hk]
  have e : decide (s.2.2 >>> (nI (cN h k) &&& 31) &&& 1 = 1) = bt s.2.2 (cN h k) := by
    cases hb : bt s.2.2 (cN h k) with
    | true => exact decide_eq_true ((b_is1 (by omega)).mpr hb)
    | false => exact decide_eq_false (fun q => by rw [(b_is1 (by omega)).mp q] at hb; cases hb)
  rw [e]
  by_cases h0 : f_occ (fun i => th i 3) n >>> (nI (cN h k) &&& 31) &&& 1 = 0
  · rw [if_pos h0]
    have := occ_b hc n hon ((b_is0 (by omega)).mp h0)
    exact (cn_skip n 0 s (fun j _ hj => this j (by omega))).symm
  · rw [if_neg h0]
/-- cells stand -/
def CE (a : zSg) (n : Nat) : Prop := ∀ i, i < n → ∃ c, c < 30 ∧ a (8 + i) 3 = nI c
theorem RE.ce {a σ : zSg} {n t m : Nat} (h : RE a σ n t m) : CE a n := fun i hi => (h.2.2.2.1 i hi).2.2.2
def ps (a : zSg) (h i : Nat) : Nat := cN h (a (8 + i) 3).toNatClampNeg
theorem ps_v {a : zSg} {n h i : Nat} (hC : CE a n) (hi : i < n) : ps a h i < 30 ∧ a (8 + i) 3 = nI (cN h (ps a h i)) := by
  obtain ⟨c, hc, e⟩ := hC i hi
  unfold ps
  rw [e, nI_clamp (by omega), cN_cN hc]
  exact ⟨cN_lt hc, rfl⟩
theorem ps_eq {a : zSg} {n h i k : Nat} (hC : CE a n) (hi : i < n) (hk : k < 30) : a (8 + i) 3 = nI (cN h k) ↔ ps a h i = k := by
  obtain ⟨h1, h2⟩ := ps_v (h := h) hC hi
  have c1 := cN_lt (h := h) h1
  have c2 := cN_lt (h := h) hk
  rw [h2]
  constructor
  · intro q
    have := (nI_eq (by omega) (by omega)).mp q
    rw [← cN_cN (h := h) h1, this, cN_cN hk]
  · intro q; rw [q]
/-- thing i has been met ahead of place (k, x) -/
def dn (a : zSg) (h : Nat) (aw : Int32) (k x i : Nat) : Prop := ¬ nI i = aw ∧ (ps a h i < k ∨ (ps a h i = k ∧ i < x))
def GI (a σ1 : zSg) (n t h : Nat) (s : Int32 × Int32 × Int32) (D : Nat → Prop) : Prop := σ1 50 31 = s.2.1 ∧ ∀ i, i < n → (D i → σ1 56 i = cL a t h i ∧ σ1 57 i = f_b (bt s.1 i) ∧ σ1 58 i = (bif bt s.1 i then 0 else cD a t h i)) ∧ (¬ D i → σ1 56 i = 0 ∧ σ1 57 i = 0 ∧ σ1 58 i = 0 ∧ bt s.1 i = false)
theorem GI.iff {a σ1 : zSg} {n t h : Nat} {s : Int32 × Int32 × Int32} {D D' : Nat → Prop} (e : ∀ i, i < n → (D i ↔ D' i)) (H : GI a σ1 n t h s D) : GI a σ1 n t h s D' := ⟨H.1, fun i hi => ⟨fun q => (H.2 i hi).1 ((e i hi).mpr q), fun q => (H.2 i hi).2 (fun z => q ((e i hi).mp z))⟩⟩
/-- what gathers leaves; aw: who is nowhere -/
def GA (a σ' : zSg) (n t h : Nat) (aw : Int32) : Prop := GI a σ' n t h (cS a n t h aw) (fun i => ¬ nI i = aw)
theorem sw0 {a : zSg} {n h : Nat} {lg : Nat → Int32} {aw : Int32} (hC : CE a n) (hl : ∀ i, i < n → lg i = 0) : g_sw n (fun i => a (8 + i)) lg h aw = (0, 0, 0) := by
  have inn : ∀ (c m i : Nat), c < 30 → i + m ≤ n → f_cn (fun i => a (8 + i)) lg (f_mo h) aw (nI c) false m i (0, 0, 0) = (0, 0, 0) := by
    intro c m
    induction m with
    | zero => intro i _ _; rfl
    | succ m ih =>
      intro i hc hi
      have e : f_ci (fun i => a (8 + i)) lg (f_mo h) aw (nI c) false i (0, 0, 0) = (0, 0, 0) := by
        unfold f_ci
        by_cases h1 : nI i = aw
        · rw [if_pos h1]
        · rw [if_neg h1]
          by_cases h2 : a (8 + i) 3 = nI c
          · rw [if_pos h2]
            show (_, _, _) = _
            have z : f_sh (nI c) (nI 0) (f_mo h) = 0 := by rcases f_mo_v h with q | q <;> (rw [q]); exact (sh_zero c hc).1; exact (sh_zero c hc).2
            dsimp only
            rw [h2, hl i (by omega), show f_sh (nI c) 0 (f_mo h) = 0 from z]
            by_cases h3 : a (8 + i) 0 = 3
            · rw [if_pos h3]; rfl
            · rw [if_neg h3]; rfl
          · rw [if_neg h2]
      show f_cn _ lg (f_mo h) aw (nI c) false m (i + 1) (f_ci _ lg (f_mo h) aw (nI c) false i (0, 0, 0)) = _
      rw [e]
      exact ih (i + 1) hc (by omega)
  have out : ∀ (m k : Nat), k + m = 30 → f_co n (f_occ (fun i => a (8 + i) 3) n) (fun i => a (8 + i)) lg (f_mo h) aw m k (0, 0, 0) = (0, 0, 0) := by
    intro m
    induction m with
    | zero => intro k _; rfl
    | succ m ih =>
      intro k hk
      show f_co n _ _ lg (f_mo h) aw m (k + 1) (f_ck n _ _ lg (f_mo h) aw k (0, 0, 0)) = _
      rw [ck_eq (th := fun i => a (8 + i)) (by omega) hC, b_0, inn _ n 0 (cN_lt (by omega)) (by omega)]
      exact ih (k + 1) (by omega)
  exact out 30 0 rfl
theorem t_gathers {X : zXs} {d n t m h : Nat} {a σ : zSg} {τ : Nat → Nat → Int64} {r : Option Nat} {aw : Int32} (hd : 54 ≤ d) (hE : RE a σ n t m) (hh : h < 13) (ha : σ 50 27 = aw) : zC X d 0 0 m_X7_gathers [.ref 50, .int (nI h)] L0 (mm σ τ r) (fun y L2 μ2 => y = none ∧ L2 = L0 ∧ ∃ σ' τ', μ2 = mm σ' τ' r ∧ SG σ σ' ∧ GA a σ' n t h aw) := by
  have h8 := hE.1.1
  have hC := hE.ce
  obtain ⟨Q, hQ⟩ : ∃ Q : zRQ, Q = (fun y L2 μ2 => y = none ∧ L2 = L0 ∧ ∃ σ' τ', μ2 = mm σ' τ' r ∧ SG σ σ' ∧ GA a σ' n t h aw) := ⟨_, rfl⟩
  rw [← hQ]
  have mny : ∀ σ1, SG σ σ1 → σ1 50 11 = nI n := fun σ1 S => (S.2 11 (by omega)).trans hE.1.2.1
  have gn : ∀ σ1, SG σ σ1 → σ1 50 27 = aw := fun σ1 S => (S.2 27 (by omega)).trans ha
  -- the inner loop
  have inner : ∀ (k : Nat) (cv : Bool), k < 30 → g_dull (a 1 6) h = false → ∀ (m x : Nat) (s : Int32 × Int32 × Int32) (σ1 : zSg) (τ1 : Nat → Nat → Int64), x + m = n → bt s.2.2 (cN h k) = cv → SG σ σ1 → GI a σ1 n t h s (dn a h aw k x) → (∀ (s' : Int32 × Int32 × Int32) (σ2 : zSg) (τ2 : Nat → Nat → Int64), s' = f_cn (fun i => a (8 + i)) (cL a t h) (f_mo h) aw (nI (cN h k)) cv m x s → SG σ σ2 → GI a σ2 n t h s' (dn a h aw k n) → zT X d m_X7_gathers Q 0 0 198 [some (.ref 50), some (.int (nI h)), some (.int (f_mo h)), some (.int s'.2.2), some (.int (nI k)), none, none, none] [] L0 (mm σ2 τ2 r)) → zT X d m_X7_gathers Q 0 0 94 [some (.ref 50), some (.int (nI h)), some (.int (f_mo h)), some (.int s.2.2), some (.int (nI k)), some (.int (nI (cN h k))), some (.int (nI x)), none] [] L0 (mm σ1 τ1 r) := by
    intro k cv hk hdl m
    have hc30 := cN_lt (h := h) hk
    obtain ⟨c, hc⟩ : ∃ c, c = cN h k := ⟨_, rfl⟩
    rw [← hc] at hc30 ⊢
    induction m with
    | zero =>
      intro x s σ1 τ1 hx hcv S G K
      have hx : x = n := by omega
      subst hx
      refine zT.step ct_X7_gathers_ok ?_
      refine zT.step ct_X7_gathers_ok ?_
      refine zT.step ct_X7_gathers_ok ?_
      refine And.intro ⟨by decide, _, rfl⟩ ?_
      refine zT.step ct_X7_gathers_ok ?_
      refine And.intro (fun _ => ?_) (fun q => ?_)
      · refine zT.drop 5 (zT.drop 6 ?_)
        exact K s σ1 τ1 rfl S G
      · have q : ¬ σ1 50 11 ≤ nI x := q
        rw [mny σ1 S] at q
        exact absurd (nI_le (Nat.le_refl x) (by omega)) q
    | succ m ih =>
      intro x s σ1 τ1 hx hcv S G K
      have hxn : x < n := by omega
      obtain ⟨k0, r0, r1, r2⟩ := (hE.sg S).2.2.1 x hxn
      have next : ∀ (s' : Int32 × Int32 × Int32) (σ2 : zSg) (τ2 : Nat → Nat → Int64), s' = f_ci (fun i => a (8 + i)) (cL a t h) (f_mo h) aw (nI c) cv x s → bt s'.2.2 c = cv → SG σ σ2 → GI a σ2 n t h s' (dn a h aw k (x + 1)) → zT X d m_X7_gathers Q 0 0 192 [some (.ref 50), some (.int (nI h)), some (.int (f_mo h)), some (.int s'.2.2), some (.int (nI k)), some (.int (nI c)), some (.int (nI x)), none] [] L0 (mm σ2 τ2 r) := by
        intro s' σ2 τ2 hs' hcv' S2 G2
        refine zT.step ct_X7_gathers_ok ?_
        refine zT.step ct_X7_gathers_ok ?_
        rw [nI_1]
        exact ih (x + 1) s' σ2 τ2 (by omega) hcv' S2 G2 (fun s'' σ3 τ3 h1 h2 h3 => K s'' σ3 τ3 (by rw [h1, hs']; rfl) h2 h3)
      refine zT.step ct_X7_gathers_ok ?_
      refine zT.step ct_X7_gathers_ok ?_
      refine zT.step ct_X7_gathers_ok ?_
      refine And.intro ⟨by decide, _, rfl⟩ ?_
      refine zT.step ct_X7_gathers_ok ?_
      refine And.intro (fun q => ?_) (fun _ => ?_)
      · have q : σ1 50 11 ≤ nI x := q
        rw [mny σ1 S] at q
        exact absurd q (nI_ge hxn (by omega))
      refine zT.step ct_X7_gathers_ok ?_
      refine zT.step ct_X7_gathers_ok ?_
      refine zT.step ct_X7_gathers_ok ?_
      refine And.intro ⟨by decide, _, rfl⟩ ?_
      refine zT.step ct_X7_gathers_ok ?_
      refine And.intro (fun q => ?_) (fun q => ?_)
      · have q : nI x = σ1 50 27 := q
        rw [gn σ1 S] at q
        refine next s σ1 τ1 (by unfold f_ci; rw [if_pos q]) hcv S (G.iff (fun i hi => ?_))
        unfold dn
        constructor
        · rintro ⟨u1, u2⟩
          exact ⟨u1, u2.imp id (fun z => ⟨z.1, by omega⟩)⟩
        · rintro ⟨u1, u2⟩
          refine ⟨u1, u2.imp id (fun z => ⟨z.1, ?_⟩)⟩
          rcases Nat.lt_or_ge i x with w | w
          · exact w
          · exact absurd (show nI i = aw by rw [show i = x by omega]; exact q) u1
      have q : ¬ nI x = σ1 50 27 := q
      rw [gn σ1 S] at q
      refine zT.step ct_X7_gathers_ok ?_
      refine zT.step ct_X7_gathers_ok ?_
      refine And.intro ⟨by decide, _, rfl⟩ ?_
      refine zT.step ct_X7_gathers_ok ?_
      refine zT.step ct_X7_gathers_ok ?_
      refine zT.step ct_X7_gathers_ok ?_
      refine zT.step ct_X7_gathers_ok ?_
      refine zT.step ct_X7_gathers_ok ?_
      refine zT.step ct_X7_gathers_ok ?_
      refine Exists.intro (3 * x + 2) (And.intro ⟨nI_3x x 2, by decide, 24, rfl, by omega, by decide⟩ ?_)
      refine zT.step ct_X7_gathers_ok ?_
      refine zT.step ct_X7_gathers_ok ?_
      refine And.intro (fun q2 => ?_) (fun q2 => ?_)
      case refine_2 =>
        have q2 : ¬ σ1 55 (3 * x + 2) = nI c := q2
        rw [r2] at q2
        have q3 : ¬ ps a h x = k := fun z => q2 (by rw [hc]; exact (ps_eq hC hxn hk).mpr z)
        refine next s σ1 τ1 (by unfold f_ci; rw [if_neg q, if_neg q2]) hcv S (G.iff (fun i hi => ?_))
        unfold dn
        constructor
        · rintro ⟨u1, u2⟩
          exact ⟨u1, u2.imp id (fun z => ⟨z.1, by omega⟩)⟩
        · rintro ⟨u1, u2⟩
          refine ⟨u1, u2.imp id (fun z => ⟨z.1, ?_⟩)⟩
          rcases Nat.lt_or_ge i x with w | w
          · exact w
          · exact absurd (show ps a h x = k by rw [show x = i by omega]; exact z.1) q3
      have q2 : σ1 55 (3 * x + 2) = nI c := q2
      rw [r2] at q2
      have q3 : ps a h x = k := (ps_eq hC hxn hk).mp (by rw [← hc]; exact q2)
      have stn := t_stands (X := X) (d := d - 1) (τ := τ1) (r := r) (hi := s.2.2) (by omega) (hE.sg S) hxn q2 hc30 hdl
      rw [hcv] at stn
      refine zT.step ct_X7_gathers_ok ?_
      refine zT.step ct_X7_gathers_ok ?_
      refine zT.step ct_X7_gathers_ok ?_
      refine zT.step ct_X7_gathers_ok ?_
      refine zT.step ct_X7_gathers_ok ?_
      refine And.intro ⟨by omega, by decide, _, rfl⟩ (zC.use stn (fun y L2 μ2 hy => ?_))
      obtain ⟨rfl, rfl, σ2, τ2, rfl, o2, p2, a56, a57, a58⟩ := hy
      have S2 : SG σ σ2 := S.trans ⟨o2, fun k hk => p2 k (by omega)⟩
      have e57 : σ2 57 x = f_b cv := by rw [a57, upd_at]
      have e56 : σ2 56 x = cL a t h x := by rw [a56, upd_at]
      have nd : ¬ dn a h aw k x x := fun z => z.2.elim (fun w => by omega) (fun w => by omega)
      have b0 := ((G.2 x hxn).2 nd).2.2.2
      have dn1 : ∀ i, i < n → i ≠ x → (dn a h aw k (x + 1) i ↔ dn a h aw k x i) := by
        intro i hi hix
        unfold dn
        constructor
        · rintro ⟨u1, u2⟩
          exact ⟨u1, u2.imp id (fun z => ⟨z.1, by omega⟩)⟩
        · rintro ⟨u1, u2⟩
          exact ⟨u1, u2.imp id (fun z => ⟨z.1, by omega⟩)⟩
      have dnx : dn a h aw k (x + 1) x := ⟨q, Or.inr ⟨q3, Nat.lt_succ_self x⟩⟩
      have oth : ∀ i, i ≠ x → σ2 56 i = σ1 56 i ∧ σ2 57 i = σ1 57 i ∧ σ2 58 i = σ1 58 i := by
        intro i hix
        rw [a56, a57, a58]
        unfold upd
        rw [if_neg hix, if_neg hix, if_neg hix]
        exact ⟨rfl, rfl, rfl⟩
      refine zT.step ct_X7_gathers_ok ?_
      refine zT.step ct_X7_gathers_ok ?_
      refine And.intro ⟨by decide, _, rfl⟩ ?_
      refine zT.step ct_X7_gathers_ok ?_
      refine zT.step ct_X7_gathers_ok ?_
      refine Exists.intro x (And.intro ⟨rfl, by decide, 8, rfl, by omega, by decide⟩ ?_)
      show zT X d m_X7_gathers _ 0 0 143 _ [.int (σ2 57 x)] _ _
      rw [e57]
      cases cv with
      | true =>
        refine zT.step ct_X7_gathers_ok ?_
        refine And.intro (fun z => absurd z (by decide)) (fun _ => ?_)
        refine next (s.1 ||| 1 <<< (nI x &&& 31), s.2.1, s.2.2) σ2 τ2 (by unfold f_ci; rw [if_neg q, if_pos q2]; rfl) hcv S2 ⟨by rw [p2 31 (by omega)]; exact G.1, fun i hi => ?_⟩
        show (_ → _ ∧ σ2 57 i = f_b (bt (s.1 ||| 1 <<< (nI x &&& 31)) i) ∧ _) ∧ (_ → _ ∧ _ ∧ _ ∧ bt (s.1 ||| 1 <<< (nI x &&& 31)) i = false)
        have eb : bt (s.1 ||| 1 <<< (nI x &&& 31)) i = (bt s.1 i || decide (i = x)) := by rw [b_or, b_w (by omega) (by omega)]
        by_cases hix : i = x
        · subst hix
          rw [decide_eq_true rfl, Bool.or_true] at eb
          refine ⟨fun _ => ⟨e56, by rw [eb]; exact e57, ?_⟩, fun z => absurd dnx z⟩
          show σ2 58 i = (bif bt (s.1 ||| 1 <<< (nI i &&& 31)) i then 0 else cD a t h i)
          rw [eb, a58, upd_at]
        · rw [decide_eq_false hix, Bool.or_false] at eb
          obtain ⟨o6, o7, o8⟩ := oth i hix
          have GG := G.2 i hi
          show (_ → _ ∧ _ ∧ σ2 58 i = (bif bt (s.1 ||| 1 <<< (nI x &&& 31)) i then 0 else cD a t h i)) ∧ _
          rw [eb, o6, o7, o8]
          exact ⟨fun z => GG.1 ((dn1 i hi hix).mp z), fun z => GG.2 (fun w => z ((dn1 i hi hix).mpr w))⟩
      | false =>
        obtain ⟨l, hl, el⟩ := cL_n a t h x
        obtain ⟨sh, hsh⟩ : ∃ sh, sh = f_sh (nI c) (nI l) (f_mo h) := ⟨_, rfl⟩
        have own : bt sh c = false := by rw [hsh]; rcases f_mo_v h with z | z <;> (rw [z]); exact (sh_own c hc30 l hl).1; exact (sh_own c hc30 l hl).2
        have shd := t_shadow (X := X) (d := d - 1) (L := L0) (μ := mm σ2 τ2 r) (by omega) hc30 hl (f_mo_v h)
        rw [← hsh] at shd
        have e31 : σ2 50 31 = s.2.1 := by rw [p2 31 (by omega)]; exact G.1
        refine zT.step ct_X7_gathers_ok ?_
        refine And.intro (fun _ => ?_) (fun z => absurd rfl z)
        refine zT.step ct_X7_gathers_ok ?_
        refine zT.step ct_X7_gathers_ok ?_
        refine zT.step ct_X7_gathers_ok ?_
        refine And.intro ⟨by decide, _, rfl⟩ ?_
        refine zT.step ct_X7_gathers_ok ?_
        refine zT.step ct_X7_gathers_ok ?_
        refine Exists.intro x (And.intro ⟨rfl, by decide, 8, rfl, by omega, by decide⟩ ?_)
        show zT X d m_X7_gathers _ 0 0 155 _ [.int (σ2 56 x), .int (nI c)] _ _
        rw [e56, el]
        refine zT.step ct_X7_gathers_ok ?_
        refine zT.step ct_X7_gathers_ok ?_
        refine And.intro (by omega) (zF.use shd ?_)
        refine zT.step ct_X7_gathers_ok ?_
        refine zT.step ct_X7_gathers_ok ?_
        refine zT.step ct_X7_gathers_ok ?_
        refine zT.step ct_X7_gathers_ok ?_
        refine And.intro ⟨by decide, _, rfl⟩ ?_
        refine zT.step ct_X7_gathers_ok ?_
        refine zT.step ct_X7_gathers_ok ?_
        refine zT.step ct_X7_gathers_ok ?_
        refine And.intro ⟨by decide, _, rfl⟩ ?_
        refine zT.step ct_X7_gathers_ok ?_
        refine zT.step ct_X7_gathers_ok ?_
        refine zT.step ct_X7_gathers_ok ?_
        refine And.intro ⟨by decide, _, rfl⟩ ?_
        refine zT.step ct_X7_gathers_ok ?_
        refine zT.step ct_X7_gathers_ok ?_
        refine Exists.intro x (And.intro ⟨rfl, by decide, 8, rfl, by omega, by decide⟩ ?_)
        have S3 : SG σ (z_up σ2 50 31 (σ2 50 31 ||| sh)) := S2.trans ⟨fun b b0 _ _ _ => zu_n _ _ _ _ _ b0, fun j hj => zu_k _ _ _ _ _ (by omega)⟩
        have G3 : ∀ hd3, GI a (z_up σ2 50 31 (σ2 50 31 ||| sh)) n t h (s.1, s.2.1 ||| sh, hd3) (dn a h aw k (x + 1)) := by
          intro hd3
          refine ⟨by rw [z_up_s, e31], fun i hi => ?_⟩
          rw [zu_n _ _ _ _ _ (by decide), zu_n _ _ _ _ _ (by decide), zu_n _ _ _ _ _ (by decide)]
          show (_ → _ ∧ σ2 57 i = f_b (bt s.1 i) ∧ σ2 58 i = (bif bt s.1 i then 0 else cD a t h i)) ∧ (_ → _ ∧ _ ∧ _ ∧ bt s.1 i = false)
          by_cases hix : i = x
          · subst hix
            rw [b0]
            exact ⟨fun _ => ⟨e56, e57, by rw [a58, upd_at]⟩, fun z => absurd dnx z⟩
          · obtain ⟨o6, o7, o8⟩ := oth i hix
            have GG := G.2 i hi
            rw [o6, o7, o8]
            exact ⟨fun z => GG.1 ((dn1 i hi hix).mp z), fun z => GG.2 (fun w => z ((dn1 i hi hix).mpr w))⟩
        have k54 : z_up σ2 50 31 (σ2 50 31 ||| sh) 54 x = a (8 + x) 0 := by rw [zu_n _ _ _ _ _ (by decide), o2 54 (by decide) (by decide) (by decide) (by decide)]; exact k0
        have fci : f_ci (fun i => a (8 + i)) (cL a t h) (f_mo h) aw (nI c) false x s = (s.1, s.2.1 ||| sh, if a (8 + x) 0 = 3 then s.2.2 else s.2.2 ||| sh) := by
          unfold f_ci
          rw [if_neg q, if_pos q2]
          show (_, _, _) = _
          dsimp only
          rw [q2, el, ← hsh]
        show zT X d m_X7_gathers _ 0 0 180 _ [.int (z_up σ2 50 31 (σ2 50 31 ||| sh) 54 x), .int s.2.2] _ (mm (z_up σ2 50 31 (σ2 50 31 ||| sh)) τ2 r)
        rw [k54]
        refine zT.step ct_X7_gathers_ok ?_
        refine zT.step ct_X7_gathers_ok ?_
        refine And.intro (fun z => ?_) (fun z => ?_)
        · have z : a (8 + x) 0 = 3 := z
          rw [if_pos z] at fci
          refine zT.step ct_X7_gathers_ok ?_
          refine zT.step ct_X7_gathers_ok ?_
          refine zT.step ct_X7_gathers_ok ?_
          refine zT.step ct_X7_gathers_ok ?_
          refine zT.drop 7 ?_
          show zT X d m_X7_gathers _ 0 0 192 [some (.ref 50), some (.int (nI h)), some (.int (f_mo h)), some (.int (s.2.2 ||| 0)), some (.int (nI k)), some (.int (nI c)), some (.int (nI x)), none] [] L0 _
          rw [Int32.or_zero]
          exact next (s.1, s.2.1 ||| sh, s.2.2) _ τ2 fci.symm hcv S3 (G3 _)
        · have z : ¬ a (8 + x) 0 = 3 := z
          rw [if_neg z] at fci
          refine zT.step ct_X7_gathers_ok ?_
          refine zT.step ct_X7_gathers_ok ?_
          refine zT.step ct_X7_gathers_ok ?_
          refine zT.drop 7 ?_
          exact next (s.1, s.2.1 ||| sh, s.2.2 ||| sh) _ τ2 fci.symm (by show bt (s.2.2 ||| sh) c = false; rw [b_or, hcv, own]; rfl) S3 (G3 _)
  -- the outer loop
  have outer : g_dull (a 1 6) h = false → ∀ (m k : Nat) (s : Int32 × Int32 × Int32) (σ1 : zSg) (τ1 : Nat → Nat → Int64), k + m = 30 → SG σ σ1 → GI a σ1 n t h s (dn a h aw k 0) → f_co n (f_occ (fun i => a (8 + i) 3) n) (fun i => a (8 + i)) (cL a t h) (f_mo h) aw m k s = cS a n t h aw → zT X d m_X7_gathers Q 0 0 68 [some (.ref 50), some (.int (nI h)), some (.int (f_mo h)), some (.int s.2.2), some (.int (nI k)), none, none, none] [] L0 (mm σ1 τ1 r) := by
    intro hdl m
    induction m with
    | zero =>
      intro k s σ1 τ1 hk S G hF
      have hk : k = 30 := by omega
      subst hk
      have hF : s = cS a n t h aw := hF
      refine zT.step ct_X7_gathers_ok ?_
      refine zT.step ct_X7_gathers_ok ?_
      refine zT.step ct_X7_gathers_ok ?_
      refine And.intro (fun _ => ?_) (fun q => absurd (by decide) q)
      refine zT.step ct_X7_gathers_ok ?_
      rw [hQ]
      refine And.intro rfl (And.intro rfl ⟨σ1, τ1, rfl, S, ?_⟩)
      unfold GA
      rw [← hF]
      exact G.iff (fun i hi => ⟨fun z => z.1, fun z => ⟨z, Or.inl (ps_v hC hi).1⟩⟩)
    | succ m ih =>
      intro k s σ1 τ1 hk S G hF
      have hF : f_co n (f_occ (fun i => a (8 + i) 3) n) (fun i => a (8 + i)) (cL a t h) (f_mo h) aw m (k + 1) (f_ck n (f_occ (fun i => a (8 + i) 3) n) (fun i => a (8 + i)) (cL a t h) (f_mo h) aw k s) = cS a n t h aw := hF
      rw [ck_eq (th := fun i => a (8 + i)) (by omega) hC] at hF
      have back : zT X d m_X7_gathers Q 0 0 94 [some (.ref 50), some (.int (nI h)), some (.int (f_mo h)), some (.int s.2.2), some (.int (nI k)), some (.int (nI (cN h k))), some (.int (nI 0)), none] [] L0 (mm σ1 τ1 r) := by
        refine inner k _ (by omega) hdl n 0 s σ1 τ1 (by omega) rfl S G (fun s' σ2 τ2 hs' S2 G2 => ?_)
        refine zT.step ct_X7_gathers_ok ?_
        refine zT.step ct_X7_gathers_ok ?_
        rw [nI_1]
        refine ih (k + 1) s' σ2 τ2 (by omega) S2 (G2.iff (fun i hi => ?_)) (by rw [hs']; exact hF)
        unfold dn
        constructor
        · rintro ⟨u1, u2⟩
          exact ⟨u1, Or.inl (by omega)⟩
        · rintro ⟨u1, u2⟩
          refine ⟨u1, ?_⟩
          rcases u2 with w | w
          · rcases Nat.lt_or_ge (ps a h i) k with w2 | w2
            · exact Or.inl w2
            · exact Or.inr ⟨by omega, hi⟩
          · omega
      refine zT.step ct_X7_gathers_ok ?_
      refine zT.step ct_X7_gathers_ok ?_
      refine zT.step ct_X7_gathers_ok ?_
      refine And.intro (fun q => ?_) (fun _ => ?_)
      · have q : nI 30 ≤ nI k := q
        exact absurd q (nI_ge (show k < 30 by omega) (by decide))
      refine zT.step ct_X7_gathers_ok ?_
      refine zT.step ct_X7_gathers_ok ?_
      refine And.intro (fun q => ?_) (fun q => ?_)
      · have q : f_mo h = 0 := q
        refine zT.step ct_X7_gathers_ok ?_
        refine zT.step ct_X7_gathers_ok ?_
        refine zT.step ct_X7_gathers_ok ?_
        refine zT.step ct_X7_gathers_ok ?_
        have e : nI (cN h k) = nI k := by
          unfold cN
          unfold f_mo at q
          by_cases z : h < 6
          · rw [if_pos z] at q; exact absurd q (by decide)
          · rw [if_neg z]
        rw [e] at back
        exact back
      · have q : ¬ f_mo h = 0 := q
        refine zT.step ct_X7_gathers_ok ?_
        refine zT.step ct_X7_gathers_ok ?_
        refine zT.step ct_X7_gathers_ok ?_
        refine zT.step ct_X7_gathers_ok ?_
        refine zT.step ct_X7_gathers_ok ?_
        refine zT.step ct_X7_gathers_ok ?_
        refine zT.step ct_X7_gathers_ok ?_
        have e : nI (cN h k) = 29 - nI k := by
          unfold cN
          unfold f_mo at q
          by_cases z : h < 6
          · rw [if_pos z]
            show _ = nI 29 - nI k
            rw [nI_sub (by omega)]
          · rw [if_neg z] at q; exact absurd rfl q
        rw [e] at back
        exact back
  -- the rows emptied first
  have zero : ∀ (m x : Nat) (σ1 : zSg), x + m = n → SG σ σ1 → σ1 50 31 = 0 → (∀ i, i < x → σ1 56 i = 0 ∧ σ1 57 i = 0 ∧ σ1 58 i = 0) → zT X d m_X7_gathers Q 0 0 7 [some (.ref 50), some (.int (nI h)), some (.int (nI x)), none, none, none, none, none] [] L0 (mm σ1 τ r) := by
    intro m
    induction m with
    | zero =>
      intro x σ1 hx S h31 hz
      have hx : x = n := by omega
      subst hx
      have ed : σ1 50 8 = a 1 6 := (S.2 8 (by omega)).trans hE.2.1.2
      have du := t_isDull (X := X) (d := d - 1) (τ := τ) (r := r) (σ := σ1) hh
      rw [ed] at du
      refine zT.step ct_X7_gathers_ok ?_
      refine zT.step ct_X7_gathers_ok ?_
      refine zT.step ct_X7_gathers_ok ?_
      refine And.intro ⟨by decide, _, rfl⟩ ?_
      refine zT.step ct_X7_gathers_ok ?_
      refine And.intro (fun _ => ?_) (fun q => ?_)
      case refine_2 =>
        have q : ¬ σ1 50 11 ≤ nI x := q
        rw [mny σ1 S] at q
        exact absurd (nI_le (Nat.le_refl x) (by omega)) q
      refine zT.step ct_X7_gathers_ok ?_
      refine zT.step ct_X7_gathers_ok ?_
      refine zT.step ct_X7_gathers_ok ?_
      refine And.intro ⟨by omega, by decide, _, rfl⟩ (zF.use du ?_)
      refine zT.step ct_X7_gathers_ok ?_
      refine And.intro (fun q => ?_) (fun q => ?_)
      · have q := fb0 q
        have st : ∀ w : Int32, w = f_mo h → zT X d m_X7_gathers Q 0 0 62 [some (.ref 50), some (.int (nI h)), some (.int (nI x)), none, none, none, none, none] [.int w] L0 (mm σ1 τ r) := by
          intro w hw
          rw [hw]
          refine zT.step ct_X7_gathers_ok ?_
          refine zT.step ct_X7_gathers_ok ?_
          refine zT.step ct_X7_gathers_ok ?_
          refine zT.step ct_X7_gathers_ok ?_
          refine zT.step ct_X7_gathers_ok ?_
          refine outer q 30 0 (0, 0, 0) σ1 τ rfl S ⟨h31, fun i hi => ⟨fun z => ?_, fun _ => ⟨(hz i hi).1, (hz i hi).2.1, (hz i hi).2.2, b_0 i⟩⟩⟩ rfl
          exact absurd z.2 (by omega)
        refine zT.step ct_X7_gathers_ok ?_
        refine zT.step ct_X7_gathers_ok ?_
        refine zT.step ct_X7_gathers_ok ?_
        refine And.intro (fun z => ?_) (fun z => ?_)
        · have z : nI 6 ≤ nI h := z
          have z := (nI_leI (by omega) (by omega)).mp z
          refine zT.step ct_X7_gathers_ok ?_
          exact st 0 (by unfold f_mo; rw [if_neg (by omega)])
        · have z : ¬ nI 6 ≤ nI h := z
          have z : h < 6 := i_ge rfl rfl (by omega) (by omega) z
          refine zT.step ct_X7_gathers_ok ?_
          refine zT.step ct_X7_gathers_ok ?_
          exact st 1 (by unfold f_mo; rw [if_pos z])
      · have q := fb1 q
        have z1 : ∀ i, cL a t h i = 0 := fun i => by unfold cL g_L; rw [q]; rfl
        have z2 : ∀ i, cD a t h i = 0 := fun i => by unfold cD g_D; rw [q]; rfl
        have e0 : cS a x t h aw = (0, 0, 0) := sw0 hC (fun i _ => z1 i)
        refine zT.step ct_X7_gathers_ok ?_
        rw [hQ]
        refine And.intro rfl (And.intro rfl ⟨σ1, τ, rfl, S, ?_⟩)
        unfold GA
        rw [e0]
        refine ⟨h31, fun i hi => ?_⟩
        obtain ⟨y1, y2, y3⟩ := hz i hi
        show (_ → _ ∧ σ1 57 i = f_b (bt 0 i) ∧ σ1 58 i = (bif bt 0 i then 0 else _)) ∧ (_ → _ ∧ _ ∧ _ ∧ bt 0 i = false)
        rw [b_0, z1, z2, y1, y2, y3]
        exact ⟨fun _ => ⟨rfl, rfl, rfl⟩, fun _ => ⟨rfl, rfl, rfl, rfl⟩⟩
    | succ m ih =>
      intro x σ1 hx S h31 hz
      refine zT.step ct_X7_gathers_ok ?_
      refine zT.step ct_X7_gathers_ok ?_
      refine zT.step ct_X7_gathers_ok ?_
      refine And.intro ⟨by decide, _, rfl⟩ ?_
      refine zT.step ct_X7_gathers_ok ?_
      refine And.intro (fun q => ?_) (fun _ => ?_)
      · have q : σ1 50 11 ≤ nI x := q
        rw [mny σ1 S] at q
        exact absurd q (nI_ge (show x < n by omega) (by omega))
      refine zT.step ct_X7_gathers_ok ?_
      refine zT.step ct_X7_gathers_ok ?_
      refine And.intro ⟨by decide, _, rfl⟩ ?_
      refine zT.step ct_X7_gathers_ok ?_
      refine zT.step ct_X7_gathers_ok ?_
      refine zT.step ct_X7_gathers_ok ?_
      refine Exists.intro x (And.intro ⟨rfl, by decide, 8, rfl, by omega, by decide⟩ ?_)
      refine zT.step ct_X7_gathers_ok ?_
      refine zT.step ct_X7_gathers_ok ?_
      refine And.intro ⟨by decide, _, rfl⟩ ?_
      refine zT.step ct_X7_gathers_ok ?_
      refine zT.step ct_X7_gathers_ok ?_
      refine zT.step ct_X7_gathers_ok ?_
      refine Exists.intro x (And.intro ⟨rfl, by decide, 8, rfl, by omega, by decide⟩ ?_)
      refine zT.step ct_X7_gathers_ok ?_
      refine zT.step ct_X7_gathers_ok ?_
      refine And.intro ⟨by decide, _, rfl⟩ ?_
      refine zT.step ct_X7_gathers_ok ?_
      refine zT.step ct_X7_gathers_ok ?_
      refine zT.step ct_X7_gathers_ok ?_
      refine Exists.intro x (And.intro ⟨rfl, by decide, 8, rfl, by omega, by decide⟩ ?_)
      refine zT.step ct_X7_gathers_ok ?_
      refine zT.step ct_X7_gathers_ok ?_
      rw [nI_1]
      refine ih (x + 1) (z_up (z_up (z_up σ1 56 x 0) 57 x 0) 58 x 0) (by omega) (((S.trans (SG.u5 (Or.inl rfl))).trans (SG.u5 (Or.inr (Or.inl rfl)))).trans (SG.u5 (Or.inr (Or.inr rfl)))) ?_ (fun i hi => ?_)
      · rw [zu_n _ _ _ _ _ (by decide), zu_n _ _ _ _ _ (by decide), zu_n _ _ _ _ _ (by decide)]; exact h31
      · have e6 : z_up (z_up (z_up σ1 56 x 0) 57 x 0) 58 x 0 56 = upd (σ1 56) x 0 := by rw [zu_n _ _ _ _ _ (by decide), zu_n _ _ _ _ _ (by decide), zu_s]
        have e7 : z_up (z_up (z_up σ1 56 x 0) 57 x 0) 58 x 0 57 = upd (σ1 57) x 0 := by rw [zu_n _ _ _ _ _ (by decide), zu_s, zu_n _ _ _ _ _ (by decide)]
        have e8 : z_up (z_up (z_up σ1 56 x 0) 57 x 0) 58 x 0 58 = upd (σ1 58) x 0 := by rw [zu_s, zu_n _ _ _ _ _ (by decide), zu_n _ _ _ _ _ (by decide)]
        rw [e6, e7, e8]
        unfold upd
        by_cases hix : i = x
        · rw [if_pos hix, if_pos hix, if_pos hix]; exact ⟨rfl, rfl, rfl⟩
        · rw [if_neg hix, if_neg hix, if_neg hix]; exact hz i (by omega)
  refine zC.of mk_X7_gathers rfl ?_
  refine zT.step ct_X7_gathers_ok ?_
  refine zT.step ct_X7_gathers_ok ?_
  refine zT.step ct_X7_gathers_ok ?_
  refine And.intro ⟨by decide, _, rfl⟩ ?_
  refine zT.step ct_X7_gathers_ok ?_
  refine zT.step ct_X7_gathers_ok ?_
  exact zero n 0 (z_up σ 50 31 0) (by omega) ⟨fun b b0 _ _ _ => zu_n _ _ _ _ _ b0, fun j hj => zu_k _ _ _ _ _ (by omega)⟩ (z_up_s _ _ _ _) (fun i hi => absurd hi (Nat.not_lt_zero i))
