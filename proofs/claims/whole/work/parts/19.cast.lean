/-! Square.occupied, shadowOf, cast, castWithout, look -/
theorem i_ge {x y : Int32} {a b : Nat} (hx : x = nI a) (hy : y = nI b) (ha : a < 2 ^ 31) (hb : b < 2 ^ 31) (h : ¬ y ≤ x) : a < b := by
  rcases Nat.lt_or_ge a b with q | q
  · exact q
  · exact absurd ((i_le hy hx hb ha).mpr q) h
def f_occ (on : Nat → Int32) : Nat → Int32
  | 0 => 0
  | n + 1 => f_occ on n ||| 1 <<< (on n &&& 31)
theorem s_occupied {X : zXs} {d n : Nat} {σ : zSg} {τ : Nat → Nat → Int64} {r : Option Nat} (hn : n ≤ 8) (hm : σ 1 2 = nI n) : zF X d m_X4_occupied [.ref 1] L0 (mm σ τ r) (some (.int (f_occ (fun i => σ (8 + i) 3) n))) (mm σ τ r) := by
  have lp : ∀ (m i : Nat), i + m = n → zT X d m_X4_occupied (fun w L2 μ2 => w = some (.int (f_occ (fun i => σ (8 + i) 3) n)) ∧ L2 = L0 ∧ μ2 = mm σ τ r) 0 0 4 [some (.ref 1), some (.int (f_occ (fun i => σ (8 + i) 3) i)), some (.int (nI i))] [] L0 (mm σ τ r) := by
    intro m
    induction m with
    | zero =>
      intro i hi
      have hi : i = n := by omega
      subst hi
      refine zT.step ct_X4_occupied_ok ?_
      refine zT.step ct_X4_occupied_ok ?_
      refine zT.step ct_X4_occupied_ok ?_
      refine And.intro ⟨by decide, _, rfl⟩ ?_
      refine zT.step ct_X4_occupied_ok ?_
      refine And.intro (fun h => ?_) (fun h => ?_)
      · refine zT.step ct_X4_occupied_ok ?_
        refine zT.step ct_X4_occupied_ok ?_
        exact And.intro rfl (And.intro rfl rfl)
      · have h : ¬ σ 1 2 ≤ nI i := h
        rw [hm] at h
        exact absurd ((i_le rfl rfl (by omega) (by omega)).mpr (Nat.le_refl _)) h
    | succ m ih =>
      intro i hi
      refine zT.step ct_X4_occupied_ok ?_
      refine zT.step ct_X4_occupied_ok ?_
      refine zT.step ct_X4_occupied_ok ?_
      refine And.intro ⟨by decide, _, rfl⟩ ?_
      refine zT.step ct_X4_occupied_ok ?_
      refine And.intro (fun h => ?_) (fun h => ?_)
      · have h : σ 1 2 ≤ nI i := h
        rw [hm] at h
        have := (i_le (x := nI n) (y := nI i) rfl rfl (by omega) (by omega)).mp h
        omega
      · refine zT.step ct_X4_occupied_ok ?_
        refine zT.step ct_X4_occupied_ok ?_
        refine zT.step ct_X4_occupied_ok ?_
        refine zT.step ct_X4_occupied_ok ?_
        refine And.intro ⟨by decide, _, rfl⟩ ?_
        refine zT.step ct_X4_occupied_ok ?_
        refine zT.step ct_X4_occupied_ok ?_
        refine Exists.intro i (And.intro ⟨rfl, by decide, 8, rfl, by omega, by decide⟩ ?_)
        refine zT.step ct_X4_occupied_ok ?_
        refine And.intro (L0_thing (show i < 8 by omega)) ?_
        refine zT.step ct_X4_occupied_ok ?_
        refine zT.step ct_X4_occupied_ok ?_
        refine zT.step ct_X4_occupied_ok ?_
        refine zT.step ct_X4_occupied_ok ?_
        refine zT.step ct_X4_occupied_ok ?_
        rw [nI_1]
        exact ih (i + 1) (by omega)
  refine zF.of mk_X4_occupied rfl ?_
  refine zT.step ct_X4_occupied_ok ?_
  refine zT.step ct_X4_occupied_ok ?_
  refine zT.step ct_X4_occupied_ok ?_
  refine zT.step ct_X4_occupied_ok ?_
  exact lp n 0 (by omega)
def f_mx0 (x : Int32) : Int32 := if 0 < x then x else 0
def f_mn30 (x : Int32) : Int32 := if x < 30 then x else 30
def f_sh (on lg mo : Int32) : Int32 := if mo = 0 then f_bits (on + 1) (f_mn30 (on + 1 + lg)) else f_bits (f_mx0 (on - lg)) on
theorem s_shadowOf {X : zXs} {d i : Nat} {σ : zSg} {τ : Nat → Nat → Int64} {r : Option Nat} {mo : Int32} (hd : 1 ≤ d) (hi : i < 8) : zF X d m_X4_shadowOf [.ref 1, .int (nI i), .int mo] L0 (mm σ τ r) (some (.int (f_sh (σ (8 + i) 3) (σ 4 i) mo))) (mm σ τ r) := by
  refine zF.of mk_X4_shadowOf rfl ?_
  refine zT.step ct_X4_shadowOf_ok ?_
  refine zT.step ct_X4_shadowOf_ok ?_
  refine And.intro ⟨by decide, _, rfl⟩ ?_
  refine zT.step ct_X4_shadowOf_ok ?_
  refine zT.step ct_X4_shadowOf_ok ?_
  refine Exists.intro i (And.intro ⟨rfl, by decide, 8, rfl, hi, by decide⟩ ?_)
  refine zT.step ct_X4_shadowOf_ok ?_
  refine And.intro (L0_thing hi) ?_
  refine zT.step ct_X4_shadowOf_ok ?_
  refine zT.step ct_X4_shadowOf_ok ?_
  refine zT.step ct_X4_shadowOf_ok ?_
  refine And.intro (fun h => ?_) (fun h => ?_)
  · have h : mo = 0 := h
    refine zT.step ct_X4_shadowOf_ok ?_
    refine zT.step ct_X4_shadowOf_ok ?_
    refine zT.step ct_X4_shadowOf_ok ?_
    refine zT.step ct_X4_shadowOf_ok ?_
    refine zT.step ct_X4_shadowOf_ok ?_
    refine zT.step ct_X4_shadowOf_ok ?_
    refine zT.step ct_X4_shadowOf_ok ?_
    refine zT.step ct_X4_shadowOf_ok ?_
    refine zT.step ct_X4_shadowOf_ok ?_
    refine And.intro ⟨by decide, _, rfl⟩ ?_
    refine zT.step ct_X4_shadowOf_ok ?_
    refine zT.step ct_X4_shadowOf_ok ?_
    refine Exists.intro i (And.intro ⟨rfl, by decide, 8, rfl, hi, by decide⟩ ?_)
    refine zT.step ct_X4_shadowOf_ok ?_
    refine zT.step ct_X4_shadowOf_ok ?_
    refine And.intro hd ?_
    refine zT.step ct_X4_shadowOf_ok ?_
    refine And.intro hd (zF.use s_bits ?_)
    refine zT.step ct_X4_shadowOf_ok ?_
    exact And.intro (by unfold f_sh; rw [if_pos h]; rfl) (And.intro rfl rfl)
  · have h : ¬ mo = 0 := h
    refine zT.step ct_X4_shadowOf_ok ?_
    refine zT.step ct_X4_shadowOf_ok ?_
    refine zT.step ct_X4_shadowOf_ok ?_
    refine zT.step ct_X4_shadowOf_ok ?_
    refine And.intro ⟨by decide, _, rfl⟩ ?_
    refine zT.step ct_X4_shadowOf_ok ?_
    refine zT.step ct_X4_shadowOf_ok ?_
    refine Exists.intro i (And.intro ⟨rfl, by decide, 8, rfl, hi, by decide⟩ ?_)
    refine zT.step ct_X4_shadowOf_ok ?_
    refine zT.step ct_X4_shadowOf_ok ?_
    refine And.intro hd ?_
    refine zT.step ct_X4_shadowOf_ok ?_
    refine zT.step ct_X4_shadowOf_ok ?_
    refine And.intro hd (zF.use s_bits ?_)
    refine zT.step ct_X4_shadowOf_ok ?_
    exact And.intro (by unfold f_sh; rw [if_neg h]; rfl) (And.intro rfl rfl)
/-- one thing at a cell: hidden, shadowed, hiding -/
def f_ci (th : Nat → Nat → Int32) (lg : Nat → Int32) (mo aw at_ : Int32) (cv : Bool) (i : Nat) (s : Int32 × Int32 × Int32) : Int32 × Int32 × Int32 :=
  if nI i = aw then s else if th i 3 = at_ then (bif cv then (s.1 ||| 1 <<< (nI i &&& 31), s.2.1, s.2.2) else (s.1, s.2.1 ||| f_sh (th i 3) (lg i) mo, if th i 0 = 3 then s.2.2 else s.2.2 ||| f_sh (th i 3) (lg i) mo)) else s
def f_cn (th : Nat → Nat → Int32) (lg : Nat → Int32) (mo aw at_ : Int32) (cv : Bool) : Nat → Nat → Int32 × Int32 × Int32 → Int32 × Int32 × Int32
  | 0, _, s => s
  | m + 1, i, s => f_cn th lg mo aw at_ cv m (i + 1) (f_ci th lg mo aw at_ cv i s)
def f_at (mo : Int32) (k : Nat) : Int32 := if mo = 0 then nI k else 29 - nI k
def f_ck (n : Nat) (oc : Int32) (th : Nat → Nat → Int32) (lg : Nat → Int32) (mo aw : Int32) (k : Nat) (s : Int32 × Int32 × Int32) : Int32 × Int32 × Int32 :=
  if oc >>> (f_at mo k &&& 31) &&& 1 = 0 then s else f_cn th lg mo aw (f_at mo k) (decide (s.2.2 >>> (f_at mo k &&& 31) &&& 1 = 1)) n 0 s
def f_co (n : Nat) (oc : Int32) (th : Nat → Nat → Int32) (lg : Nat → Int32) (mo aw : Int32) : Nat → Nat → Int32 × Int32 × Int32 → Int32 × Int32 × Int32
  | 0, _, s => s
  | m + 1, k, s => f_co n oc th lg mo aw m (k + 1) (f_ck n oc th lg mo aw k s)
/-- hidden and shadowed -/
def z_hs (σ : zSg) (hd dk : Int32) : zSg := z_up (z_up σ 1 9 hd) 1 10 dk
theorem z_hs_h (σ : zSg) (a b c : Int32) : z_up (z_hs σ a b) 1 9 c = z_hs σ c b := by
  funext x y
  unfold z_hs z_up
  by_cases h : x = 1 <;> by_cases h1 : y = 9 <;> by_cases h2 : y = 10 <;> simp_all
theorem z_hs_d (σ : zSg) (a b c : Int32) : z_up (z_hs σ a b) 1 10 c = z_hs σ a c := by
  funext x y
  unfold z_hs z_up
  by_cases h : x = 1 <;> by_cases h1 : y = 9 <;> by_cases h2 : y = 10 <;> simp_all
theorem z_hs_o (σ : zSg) (a b : Int32) (x : Nat) (h : x ≠ 1) : z_hs σ a b x = σ x := by unfold z_hs; rw [zu_n _ _ _ _ _ h, zu_n _ _ _ _ _ h]
theorem s_cast_in {X : zXs} {d n : Nat} {σ : zSg} {τ : Nat → Nat → Int64} {r : Option Nat} {Q : zRQ} {h oc mo at_ : Int32} {k : Nat} {cv : Bool} (hd : 3 ≤ d) (hn : n ≤ 8) (hm : σ 1 2 = nI n) :
    ∀ (m i : Nat) (s : Int32 × Int32 × Int32) (l9 : Option Int32), i + m = n → (∀ (s' : Int32 × Int32 × Int32), s' = f_cn (fun i => σ (8 + i)) (σ 4) mo (σ 1 11) at_ cv m i s → zT X d m_X4_cast Q 0 0 191 [some (.ref 1), some (.int h), some (.int s'.2.2), some (.int oc), some (.int mo), some (.int (nI k)), none, none, none, none] [] L0 (mm (z_hs σ s'.1 s'.2.1) τ r)) →
      zT X d m_X4_cast Q 0 0 89 [some (.ref 1), some (.int h), some (.int s.2.2), some (.int oc), some (.int mo), some (.int (nI k)), some (.int at_), some (.int (f_b cv)), some (.int (nI i)), none] [] L0 (mm (z_hs σ s.1 s.2.1) τ r) := by
  intro m
  induction m with
  | zero =>
    intro i s l9 hi K
    refine zT.step ct_X4_cast_ok ?_
    refine zT.step ct_X4_cast_ok ?_
    refine zT.step ct_X4_cast_ok ?_
    refine And.intro ⟨by decide, _, rfl⟩ ?_
    refine zT.step ct_X4_cast_ok ?_
    refine And.intro (fun q => ?_) (fun q => ?_)
    · refine zT.drop 6 (zT.drop 7 (zT.drop 8 ?_))
      exact K s rfl
    · have q : ¬ σ 1 2 ≤ nI i := q
      rw [hm] at q
      exact absurd ((i_le rfl rfl (by omega) (by omega)).mpr (by omega)) q
  | succ m ih =>
    intro i s l9 hi K
    have hi8 : i < 8 := by omega
    have next : ∀ s', s' = f_ci (fun i => σ (8 + i)) (σ 4) mo (σ 1 11) at_ cv i s → zT X d m_X4_cast Q 0 0 185 [some (.ref 1), some (.int h), some (.int s'.2.2), some (.int oc), some (.int mo), some (.int (nI k)), some (.int at_), some (.int (f_b cv)), some (.int (nI i)), none] [] L0 (mm (z_hs σ s'.1 s'.2.1) τ r) := by
      intro s' hs'
      refine zT.step ct_X4_cast_ok ?_
      refine zT.step ct_X4_cast_ok ?_
      rw [nI_1]
      exact ih (i + 1) s' l9 (by omega) (fun s'' hs'' => K s'' (by rw [hs'', hs']; rfl))
    refine zT.step ct_X4_cast_ok ?_
    refine zT.step ct_X4_cast_ok ?_
    refine zT.step ct_X4_cast_ok ?_
    refine And.intro ⟨by decide, _, rfl⟩ ?_
    refine zT.step ct_X4_cast_ok ?_
    refine And.intro (fun q => ?_) (fun q => ?_)
    · have q : σ 1 2 ≤ nI i := q
      rw [hm] at q
      have := (i_le (x := nI n) (y := nI i) rfl rfl (by omega) (by omega)).mp q
      omega
    refine zT.step ct_X4_cast_ok ?_
    refine zT.step ct_X4_cast_ok ?_
    refine zT.step ct_X4_cast_ok ?_
    refine And.intro ⟨by decide, _, rfl⟩ ?_
    refine zT.step ct_X4_cast_ok ?_
    refine And.intro (fun q => ?_) (fun q => ?_)
    · have q : nI i = σ 1 11 := q
      exact next s (by unfold f_ci; rw [if_pos q])
    have q : ¬ nI i = σ 1 11 := q
    refine zT.step ct_X4_cast_ok ?_
    refine zT.step ct_X4_cast_ok ?_
    refine And.intro ⟨by decide, _, rfl⟩ ?_
    refine zT.step ct_X4_cast_ok ?_
    refine zT.step ct_X4_cast_ok ?_
    refine Exists.intro i (And.intro ⟨rfl, by decide, 8, rfl, hi8, by decide⟩ ?_)
    refine zT.step ct_X4_cast_ok ?_
    refine And.intro (L0_thing hi8) ?_
    refine zT.step ct_X4_cast_ok ?_
    refine zT.step ct_X4_cast_ok ?_
    refine And.intro (fun q2 => ?_) (fun q2 => ?_)
    · have q2 : z_hs σ s.1 s.2.1 (8 + i) 3 = at_ := q2
      rw [z_hs_o _ _ _ _ (by omega)] at q2
      refine zT.step ct_X4_cast_ok ?_
      refine zT.step ct_X4_cast_ok ?_
      refine And.intro (fun q3 => ?_) (fun q3 => ?_)
      · have q3 : f_b cv = 0 := q3
        have q3 : cv = false := by cases cv with
          | true => exact absurd q3 (by decide)
          | false => rfl
        refine zT.step ct_X4_cast_ok ?_
        refine zT.step ct_X4_cast_ok ?_
        refine zT.step ct_X4_cast_ok ?_
        refine zT.step ct_X4_cast_ok ?_
        refine And.intro ⟨by omega, by decide, _, rfl⟩ (zF.use (s_shadowOf (by omega) hi8) ?_)
        show zT X d m_X4_cast Q 0 0 154 _ [.int (f_sh (z_hs σ s.1 s.2.1 (8 + i) 3) (z_hs σ s.1 s.2.1 4 i) mo)] _ _
        rw [z_hs_o _ _ _ _ (by omega), z_hs_o _ _ _ _ (by decide)]
        generalize hsh : f_sh (σ (8 + i) 3) (σ 4 i) mo = sh
        refine zT.step ct_X4_cast_ok ?_
        refine zT.step ct_X4_cast_ok ?_
        refine zT.step ct_X4_cast_ok ?_
        refine zT.step ct_X4_cast_ok ?_
        refine And.intro ⟨by decide, _, rfl⟩ ?_
        refine zT.step ct_X4_cast_ok ?_
        refine zT.step ct_X4_cast_ok ?_
        refine zT.step ct_X4_cast_ok ?_
        refine And.intro ⟨by decide, _, rfl⟩ ?_
        refine zT.step ct_X4_cast_ok ?_
        refine zT.step ct_X4_cast_ok ?_
        refine And.intro ⟨by decide, _, rfl⟩ ?_
        refine zT.step ct_X4_cast_ok ?_
        refine zT.step ct_X4_cast_ok ?_
        refine Exists.intro i (And.intro ⟨rfl, by decide, 8, rfl, hi8, by decide⟩ ?_)
        refine zT.step ct_X4_cast_ok ?_
        refine And.intro ⟨by omega, L0_thing hi8⟩ (zF.use (s_hides (L0_thing hi8)) ?_)
        refine zT.step ct_X4_cast_ok ?_
        refine And.intro (fun q4 => ?_) (fun q4 => ?_)
        · have q4 : f_b (decide (¬ z_up (z_hs σ s.1 s.2.1) 1 10 (s.2.1 ||| sh) (8 + i) 0 = 3)) = 0 := q4
          rw [zu_n _ _ _ _ _ (by omega), z_hs_o _ _ _ _ (by omega)] at q4
          have q4 : σ (8 + i) 0 = 3 := by
            by_cases z : σ (8 + i) 0 = 3
            · exact z
            · rw [f_b_t (decide_eq_true z)] at q4
              exact absurd q4 (by decide)
          refine zT.drop 9 ?_
          refine zT.eqm ?_ (next (s.1, s.2.1 ||| sh, s.2.2) (by unfold f_ci; rw [if_neg q, if_pos q2, q3]; show _ = (_, _, _); rw [hsh, if_pos q4]))
          exact congrArg (fun x => mm x τ r) (z_hs_d σ s.1 s.2.1 (s.2.1 ||| sh))
        · have q4 : ¬ f_b (decide (¬ z_up (z_hs σ s.1 s.2.1) 1 10 (s.2.1 ||| sh) (8 + i) 0 = 3)) = 0 := q4
          rw [zu_n _ _ _ _ _ (by omega), z_hs_o _ _ _ _ (by omega)] at q4
          have q4 : ¬ σ (8 + i) 0 = 3 := fun z => q4 (by rw [z]; rfl)
          refine zT.step ct_X4_cast_ok ?_
          refine zT.step ct_X4_cast_ok ?_
          refine zT.step ct_X4_cast_ok ?_
          refine zT.step ct_X4_cast_ok ?_
          refine zT.drop 9 ?_
          refine zT.eqm ?_ (next (s.1, s.2.1 ||| sh, s.2.2 ||| sh) (by unfold f_ci; rw [if_neg q, if_pos q2, q3]; show _ = (_, _, _); rw [hsh, if_neg q4]))
          exact congrArg (fun x => mm x τ r) (z_hs_d σ s.1 s.2.1 (s.2.1 ||| sh))
      · have q3 : ¬ f_b cv = 0 := q3
        have q3 : cv = true := by cases cv with
          | true => rfl
          | false => exact absurd rfl q3
        refine zT.step ct_X4_cast_ok ?_
        refine zT.step ct_X4_cast_ok ?_
        refine zT.step ct_X4_cast_ok ?_
        refine And.intro ⟨by decide, _, rfl⟩ ?_
        refine zT.step ct_X4_cast_ok ?_
        refine zT.step ct_X4_cast_ok ?_
        refine zT.step ct_X4_cast_ok ?_
        refine zT.step ct_X4_cast_ok ?_
        refine zT.step ct_X4_cast_ok ?_
        refine And.intro ⟨by decide, _, rfl⟩ ?_
        refine zT.step ct_X4_cast_ok ?_
        refine zT.eqm ?_ (next (s.1 ||| 1 <<< (nI i &&& 31), s.2.1, s.2.2) (by unfold f_ci; rw [if_neg q, if_pos q2, q3]; rfl))
        exact congrArg (fun x => mm x τ r) (z_hs_h σ s.1 s.2.1 (s.1 ||| 1 <<< (nI i &&& 31)))
    · have q2 : ¬ z_hs σ s.1 s.2.1 (8 + i) 3 = at_ := q2
      rw [z_hs_o _ _ _ _ (by omega)] at q2
      refine zT.step ct_X4_cast_ok ?_
      exact next s (by unfold f_ci; rw [if_neg q, if_neg q2])
