/-! the class's memory a and the reference's cells in σ; says, longOf, owesOf, isDull, stands -/
def RE (a σ : zSg) (n t m : Nat) : Prop := (n ≤ 8 ∧ σ 50 11 = nI n ∧ t < m ∧ m ≤ 6 ∧ σ 50 3 = nI m ∧ σ 50 4 = nI t) ∧ (σ 50 7 = a 1 5 ∧ σ 50 8 = a 1 6) ∧ (∀ i, i < n → σ 54 i = a (8 + i) 0 ∧ σ 55 (3 * i) = a (8 + i) 1 ∧ σ 55 (3 * i + 1) = a (8 + i) 2 ∧ σ 55 (3 * i + 2) = a (8 + i) 3) ∧ (∀ i, i < n → TH1 (a (8 + i))) ∧ ∀ t', t' < m → TX a σ t'
theorem TX.mono {a σ σ' : zSg} {t : Nat} (h51 : σ' 51 = σ 51) (h52 : σ' 52 = σ 52) (h : TX a σ t) : TX a σ' t := by
  obtain ⟨sz, g, hT, hg, h1, h2⟩ := h
  have e : tB σ' t = tB σ t := by funext i; show σ' 51 _ = σ 51 _; rw [h51]
  refine ⟨sz, g, ?_, by rw [e]; exact hg, by rw [e]; exact h1, by rw [e]; exact h2⟩
  unfold RT at hT ⊢
  rw [h51, h52]
  exact hT
/-- what the reference's questions may write -/
def SG (σ σ' : zSg) : Prop := (∀ b, b ≠ 50 → b ≠ 56 → b ≠ 57 → b ≠ 58 → σ' b = σ b) ∧ ∀ k, (k < 12 ∨ (26 < k ∧ k ≠ 31)) → σ' 50 k = σ 50 k
theorem SG.rf {σ : zSg} : SG σ σ := ⟨fun _ _ _ _ _ => rfl, fun _ _ => rfl⟩
theorem SG.trans {a b c : zSg} (h1 : SG a b) (h2 : SG b c) : SG a c := ⟨fun x x0 x6 x7 x8 => (h2.1 x x0 x6 x7 x8).trans (h1.1 x x0 x6 x7 x8), fun k hk => (h2.2 k hk).trans (h1.2 k hk)⟩
theorem ST.sg {σ σ' : zSg} (h : ST 12 σ σ') : SG σ σ' := ⟨fun b b0 _ _ _ => h.1 b b0, fun k hk => h.2 k (by omega)⟩
theorem SG.u5 {σ : zSg} {b k : Nat} {v : Int32} (h : b = 56 ∨ b = 57 ∨ b = 58) : SG σ (z_up σ b k v) := ⟨fun x _ x6 x7 x8 => zu_n _ _ _ _ _ (by rcases h with e | e | e <;> (rw [e]; assumption)), fun j _ => by rw [zu_n _ _ _ _ _ (by rcases h with e | e | e <;> (rw [e]; decide))]⟩
theorem RE.sg {a σ σ' : zSg} {n t m : Nat} (s : SG σ σ') (h : RE a σ n t m) : RE a σ' n t m := by
  obtain ⟨⟨h1, h2, h3, h4, h5, h6⟩, ⟨h7, h8⟩, h9, h10, h11⟩ := h
  refine ⟨⟨h1, by rw [s.2 11 (by omega)]; exact h2, h3, h4, by rw [s.2 3 (by omega)]; exact h5, by rw [s.2 4 (by omega)]; exact h6⟩, ⟨by rw [s.2 7 (by omega)]; exact h7, by rw [s.2 8 (by omega)]; exact h8⟩, fun i hi => ?_, h10, fun t' ht => (h11 t' ht).mono (s.1 51 (by decide) (by decide) (by decide) (by decide)) (s.1 52 (by decide) (by decide) (by decide) (by decide))⟩
  rw [s.1 54 (by decide) (by decide) (by decide) (by decide), s.1 55 (by decide) (by decide) (by decide) (by decide)]
  exact h9 i hi
theorem nI_3x (x k : Nat) : nI 3 * nI x + nI k = nI (3 * x + k) := by rw [nI_mulN, nI_add]
theorem t_says {X : zXs} {d n t m x w h : Nat} {a σ : zSg} {τ : Nat → Nat → Int64} {r : Option Nat} {lg : Int32} (hd : 51 ≤ d) (hE : RE a σ n t m) (hx : x < n) (hw : w < 3) : zC X d 0 0 m_X7_says [.ref 50, .int (nI w), .int (nI x), .int (nI h), .int lg] L0 (mm σ τ r) (fun y L2 μ2 => y = some (.int (f_bnd (tvC a t w (g_env (a (8 + x)) (a 1 5) h lg)) (if w = 2 then 99 else 40))) ∧ L2 = L0 ∧ ∃ σ' τ', μ2 = mm σ' τ' r ∧ ST 12 σ σ') := by
  obtain ⟨⟨h1, h2, h3, h4, h5, h6⟩, ⟨h7, h8⟩, h9, h10, h11⟩ := hE
  obtain ⟨-, r0, r1, r2⟩ := h9 x hx
  obtain ⟨sz, g, hT, hg, hgood, hval⟩ := (h11 t h3).val
  have eg : EG X (tB σ t) sz g := by rw [hg]; exact EG.E
  refine zC.of mk_X7_says rfl ?_
  refine zT.step ct_X7_says_ok ?_
  refine zT.step ct_X7_says_ok ?_
  refine zT.step ct_X7_says_ok ?_
  refine And.intro ⟨by decide, _, rfl⟩ ?_
  refine zT.step ct_X7_says_ok ?_
  refine zT.step ct_X7_says_ok ?_
  refine zT.step ct_X7_says_ok ?_
  refine And.intro ⟨by decide, _, rfl⟩ ?_
  refine zT.step ct_X7_says_ok ?_
  refine zT.step ct_X7_says_ok ?_
  refine zT.step ct_X7_says_ok ?_
  refine zT.step ct_X7_says_ok ?_
  refine zT.step ct_X7_says_ok ?_
  refine zT.step ct_X7_says_ok ?_
  refine Exists.intro (3 * x + 1) (And.intro ⟨?_, by decide, 24, rfl, by omega, by decide⟩ ?_)
  · exact nI_3x x 1
  refine zT.step ct_X7_says_ok ?_
  refine And.intro ⟨by decide, _, rfl⟩ ?_
  refine zT.step ct_X7_says_ok ?_
  refine zT.step ct_X7_says_ok ?_
  refine zT.step ct_X7_says_ok ?_
  refine And.intro ⟨by decide, _, rfl⟩ ?_
  refine zT.step ct_X7_says_ok ?_
  refine zT.step ct_X7_says_ok ?_
  refine zT.step ct_X7_says_ok ?_
  refine zT.step ct_X7_says_ok ?_
  refine Exists.intro (3 * x) (And.intro ⟨nI_mulN 3 x, by decide, 24, rfl, by omega, by decide⟩ ?_)
  refine zT.step ct_X7_says_ok ?_
  refine And.intro ⟨by decide, _, rfl⟩ ?_
  refine zT.step ct_X7_says_ok ?_
  refine zT.step ct_X7_says_ok ?_
  refine zT.step ct_X7_says_ok ?_
  refine And.intro ⟨by decide, _, rfl⟩ ?_
  refine zT.step ct_X7_says_ok ?_
  refine zT.step ct_X7_says_ok ?_
  refine zT.step ct_X7_says_ok ?_
  refine And.intro ⟨by decide, _, rfl⟩ ?_
  refine zT.step ct_X7_says_ok ?_
  refine And.intro ⟨by decide, _, rfl⟩ ?_
  refine zT.step ct_X7_says_ok ?_
  refine zT.step ct_X7_says_ok ?_
  refine zT.step ct_X7_says_ok ?_
  refine And.intro ⟨by decide, _, rfl⟩ ?_
  refine zT.step ct_X7_says_ok ?_
  refine zT.step ct_X7_says_ok ?_
  refine zT.step ct_X7_says_ok ?_
  refine zT.step ct_X7_says_ok ?_
  refine zT.step ct_X7_says_ok ?_
  refine zT.step ct_X7_says_ok ?_
  refine Exists.intro (3 * x + 2) (And.intro ⟨?_, by decide, 24, rfl, by omega, by decide⟩ ?_)
  · exact nI_3x x 2
  refine zT.step ct_X7_says_ok ?_
  refine And.intro ⟨by decide, _, rfl⟩ ?_
  refine zT.abs (τ := τ) (r := r) rfl fun σ1 e1 => ?_
  simp only [sI_1, mm_1] at e1
  have S1 : ST 12 σ σ1 := by
    rw [e1]
    exact (((((ST.up (by decide) (by decide)).trans (ST.up (by decide) (by decide))).trans (ST.up (by decide) (by decide))).trans (ST.up (by decide) (by decide))).trans (ST.up (by decide) (by decide))).trans (ST.up (by decide) (by decide))
  have env : ∀ j, j < 6 → ev σ1 j = g_env (a (8 + x)) (a 1 5) h lg j := by
    intro j hj
    unfold ev
    rw [e1]
    have n55 : ∀ (s : zSg) k v, z_up s 50 k v 55 = s 55 := fun s k v => zu_n _ _ _ _ _ (by decide)
    match j, hj with
    | 0, _ => rw [zu_k _ _ _ _ _ (by decide), zu_k _ _ _ _ _ (by decide), zu_k _ _ _ _ _ (by decide), zu_k _ _ _ _ _ (by decide), zu_k _ _ _ _ _ (by decide), z_up_s]; rfl
    | 1, _ => rw [zu_k _ _ _ _ _ (by decide), zu_k _ _ _ _ _ (by decide), zu_k _ _ _ _ _ (by decide), zu_k _ _ _ _ _ (by decide), z_up_s, n55]; exact r1
    | 2, _ => rw [zu_k _ _ _ _ _ (by decide), zu_k _ _ _ _ _ (by decide), zu_k _ _ _ _ _ (by decide), z_up_s, n55, n55]; exact r0
    | 3, _ => rw [zu_k _ _ _ _ _ (by decide), zu_k _ _ _ _ _ (by decide), z_up_s]; rfl
    | 4, _ => rw [zu_k _ _ _ _ _ (by decide), z_up_s, zu_k _ _ _ _ _ (by decide), zu_k _ _ _ _ _ (by decide), zu_k _ _ _ _ _ (by decide), zu_k _ _ _ _ _ (by decide)]; exact h7
    | 5, _ => rw [z_up_s, n55, n55, n55, n55, n55]; exact r2
  clear e1
  have T1 : RT σ1 t sz := by
    unfold RT at hT ⊢
    rw [S1.1 51 (by decide), S1.1 52 (by decide)]
    exact hT
  have rd := t_read (X := X) (d := d - 1) (τ := τ) (r := r) (by omega) (S1.bytes t) eg T1 hw
  refine zT.step ct_X7_says_ok ?_
  refine zT.step ct_X7_says_ok ?_
  refine zT.step ct_X7_says_ok ?_
  refine And.intro ⟨by decide, _, rfl⟩ ?_
  refine zT.step ct_X7_says_ok ?_
  refine zT.step ct_X7_says_ok ?_
  rw [show z_fv (mm σ1 τ r) 50 7 4 = .int (nI t) from congrArg Value.int ((S1.2 4 (by omega)).trans h6)]
  refine And.intro ⟨by omega, by decide, _, rfl⟩ (zC.use rd (fun y L2 μ2 hy => ?_))
  obtain ⟨rfl, σ2, τ2, v, rfl, rfl, S2, -, -, hv⟩ := hy
  have hv := hval w (ev σ1) v hw (hv hgood)
  have hv : tvC a t w (g_env (a (8 + x)) (a 1 5) h lg) = v := (tvR_env env).symm.trans hv
  rw [hv]
  have S3 : ST 12 σ σ2 := S1.trans (S2.wk (by decide))
  have fin : ∀ k : Int32, 0 ≤ k → k = (if w = 2 then 99 else 40) → zT X d m_X7_says (fun y L2 μ2 => y = some (.int (f_bnd v (if w = 2 then 99 else 40))) ∧ L2 = L0 ∧ ∃ σ' τ', μ2 = mm σ' τ' r ∧ ST 12 σ σ') 0 0 81 [some (.ref 50), some (.int (nI w)), some (.int (nI x)), some (.int (nI h)), some (.int lg)] [.int k, .int 0, .int v] L0 (mm σ2 τ2 r) := by
    intro k hk0 hk
    refine zT.step ct_X7_says_ok ?_
    refine And.intro (by omega) (zF.use (t_within hk0) ?_)
    refine zT.step ct_X7_says_ok ?_
    exact And.intro (by rw [← hk]) (And.intro rfl ⟨σ2, τ2, rfl, S3⟩)
  refine zT.step ct_X7_says_ok ?_
  refine zT.step ct_X7_says_ok ?_
  refine zT.step ct_X7_says_ok ?_
  refine zT.step ct_X7_says_ok ?_
  refine And.intro (fun q => ?_) (fun q => ?_)
  · have q : nI w = nI 2 := q
    have q := (nI_eq (by omega) (by decide)).mp q
    refine zT.step ct_X7_says_ok ?_
    refine zT.step ct_X7_says_ok ?_
    exact fin 99 (by decide) (by rw [if_pos q])
  · have q : ¬ nI w = nI 2 := q
    have q : ¬ w = 2 := fun z => q (by rw [z])
    refine zT.step ct_X7_says_ok ?_
    exact fin 40 (by decide) (by rw [if_neg q])
theorem t_longT {X : zXs} {d : Nat} {x h k nm p : Int32} {L : List zSh} {μ : zMem} {Q : zRQ} (hd : 1 ≤ d) (K : Q (some (.int (f_bnd (f_len k nm p) 29))) L μ) : zT X d m_X7_longOf Q 0 0 40 [some (.ref 50), some (.int x), some (.int h), some (.int k), some (.int nm), some (.int p), none] [] L μ := by
  have fin : ∀ v : Int32, v = f_len k nm p → zT X d m_X7_longOf Q 0 0 109 [some (.ref 50), some (.int x), some (.int h), some (.int k), some (.int nm), some (.int p), none] [.int v] L μ := by
    intro v hv
    refine zT.step ct_X7_longOf_ok ?_
    refine zT.step ct_X7_longOf_ok ?_
    refine zT.step ct_X7_longOf_ok ?_
    refine zT.step ct_X7_longOf_ok ?_
    refine zT.step ct_X7_longOf_ok ?_
    refine And.intro (by omega) (zF.use (t_within (by decide)) ?_)
    refine zT.step ct_X7_longOf_ok ?_
    rw [hv]
    exact K
  refine zT.step ct_X7_longOf_ok ?_
  refine zT.step ct_X7_longOf_ok ?_
  refine zT.step ct_X7_longOf_ok ?_
  refine And.intro (fun q1 => ?_) (fun q1 => ?_)
  · have q1 : k = 1 := q1
    refine zT.step ct_X7_longOf_ok ?_
    refine zT.step ct_X7_longOf_ok ?_
    refine zT.step ct_X7_longOf_ok ?_
    refine zT.step ct_X7_longOf_ok ?_
    refine And.intro (by decide) ?_
    refine zT.step ct_X7_longOf_ok ?_
    refine zT.step ct_X7_longOf_ok ?_
    exact fin _ (by simp [f_len, q1])
  have q1 : ¬ k = 1 := q1
  refine zT.step ct_X7_longOf_ok ?_
  refine zT.step ct_X7_longOf_ok ?_
  refine zT.step ct_X7_longOf_ok ?_
  refine And.intro (fun q3 => ?_) (fun q3 => ?_)
  · have q3 : k = 3 := q3
    refine zT.step ct_X7_longOf_ok ?_
    refine zT.step ct_X7_longOf_ok ?_
    refine zT.step ct_X7_longOf_ok ?_
    refine zT.step ct_X7_longOf_ok ?_
    refine And.intro (by decide) ?_
    refine zT.step ct_X7_longOf_ok ?_
    refine zT.step ct_X7_longOf_ok ?_
    refine zT.step ct_X7_longOf_ok ?_
    refine And.intro (by decide) ?_
    refine zT.step ct_X7_longOf_ok ?_
    exact fin _ (by simp [f_len, q3])
  have q3 : ¬ k = 3 := q3
  refine zT.step ct_X7_longOf_ok ?_
  refine zT.step ct_X7_longOf_ok ?_
  refine zT.step ct_X7_longOf_ok ?_
  refine And.intro (fun q2 => ?_) (fun q2 => ?_)
  · have q2 : k = 2 := q2
    refine zT.step ct_X7_longOf_ok ?_
    refine zT.step ct_X7_longOf_ok ?_
    refine zT.step ct_X7_longOf_ok ?_
    refine zT.step ct_X7_longOf_ok ?_
    exact fin _ (by simp [f_len, q2])
  have q2 : ¬ k = 2 := q2
  refine zT.step ct_X7_longOf_ok ?_
  refine zT.step ct_X7_longOf_ok ?_
  refine zT.step ct_X7_longOf_ok ?_
  refine And.intro (fun q4 => ?_) (fun q4 => ?_)
  · have q4 : k = 4 := q4
    refine zT.step ct_X7_longOf_ok ?_
    refine zT.step ct_X7_longOf_ok ?_
    refine zT.step ct_X7_longOf_ok ?_
    refine zT.step ct_X7_longOf_ok ?_
    refine zT.step ct_X7_longOf_ok ?_
    refine zT.step ct_X7_longOf_ok ?_
    exact fin _ (by simp [f_len, q4])
  have q4 : ¬ k = 4 := q4
  refine zT.step ct_X7_longOf_ok ?_
  refine zT.step ct_X7_longOf_ok ?_
  refine zT.step ct_X7_longOf_ok ?_
  refine And.intro (fun q5 => ?_) (fun q5 => ?_)
  · have q5 : k = 5 := q5
    refine zT.step ct_X7_longOf_ok ?_
    refine zT.step ct_X7_longOf_ok ?_
    exact fin _ (by simp [f_len, q5])
  have q5 : ¬ k = 5 := q5
  refine zT.step ct_X7_longOf_ok ?_
  exact fin _ (by simp [f_len, q1, q2, q3, q4, q5])
theorem t_longOf {X : zXs} {d n t m x h : Nat} {a σ : zSg} {τ : Nat → Nat → Int64} {r : Option Nat} (hd : 52 ≤ d) (hE : RE a σ n t m) (hx : x < n) : zC X d 0 0 m_X7_longOf [.ref 50, .int (nI x), .int (nI h)] L0 (mm σ τ r) (fun y L2 μ2 => y = some (.int (g_lg (a (8 + x)) (a 1 5) (tvC a t) h)) ∧ L2 = L0 ∧ ∃ σ' τ', μ2 = mm σ' τ' r ∧ ST 12 σ σ') := by
  have h8 := hE.1.1
  obtain ⟨k0, r0, r1, r2⟩ := hE.2.2.1 x hx
  have sy := t_says (X := X) (d := d - 1) (τ := τ) (r := r) (w := 0) (h := h) (lg := 0) (by omega) hE hx (by decide)
  rw [show (if (0 : Nat) = 2 then (99 : Int32) else 40) = 40 from rfl] at sy
  unfold g_lg f_reach
  generalize f_bnd (tvC a t 0 (g_env (a (8 + x)) (a 1 5) h 0)) 40 = sl at sy ⊢
  rw [← k0, ← r0, ← r1]
  refine zC.of mk_X7_longOf rfl ?_
  refine zT.step ct_X7_longOf_ok ?_
  refine zT.step ct_X7_longOf_ok ?_
  refine And.intro ⟨by decide, _, rfl⟩ ?_
  refine zT.step ct_X7_longOf_ok ?_
  refine zT.step ct_X7_longOf_ok ?_
  refine Exists.intro x (And.intro ⟨rfl, by decide, 8, rfl, by omega, by decide⟩ ?_)
  refine zT.step ct_X7_longOf_ok ?_
  refine zT.step ct_X7_longOf_ok ?_
  refine zT.step ct_X7_longOf_ok ?_
  refine And.intro ⟨by decide, _, rfl⟩ ?_
  refine zT.step ct_X7_longOf_ok ?_
  refine zT.step ct_X7_longOf_ok ?_
  refine zT.step ct_X7_longOf_ok ?_
  refine zT.step ct_X7_longOf_ok ?_
  refine Exists.intro (3 * x) (And.intro ⟨nI_mulN 3 x, by decide, 24, rfl, by omega, by decide⟩ ?_)
  refine zT.step ct_X7_longOf_ok ?_
  refine zT.step ct_X7_longOf_ok ?_
  refine zT.step ct_X7_longOf_ok ?_
  refine And.intro ⟨by decide, _, rfl⟩ ?_
  refine zT.step ct_X7_longOf_ok ?_
  refine zT.step ct_X7_longOf_ok ?_
  refine zT.step ct_X7_longOf_ok ?_
  refine zT.step ct_X7_longOf_ok ?_
  refine zT.step ct_X7_longOf_ok ?_
  refine zT.step ct_X7_longOf_ok ?_
  refine Exists.intro (3 * x + 1) (And.intro ⟨nI_3x x 1, by decide, 24, rfl, by omega, by decide⟩ ?_)
  refine zT.step ct_X7_longOf_ok ?_
  refine zT.step ct_X7_longOf_ok ?_
  refine zT.step ct_X7_longOf_ok ?_
  refine zT.step ct_X7_longOf_ok ?_
  refine zT.step ct_X7_longOf_ok ?_
  refine zT.step ct_X7_longOf_ok ?_
  refine And.intro ⟨by omega, by decide, _, rfl⟩ (zC.use sy (fun y L2 μ2 hy => ?_))
  obtain ⟨rfl, rfl, σ1, τ1, rfl, S1⟩ := hy
  refine zT.step ct_X7_longOf_ok ?_
  refine zT.step ct_X7_longOf_ok ?_
  refine zT.step ct_X7_longOf_ok ?_
  refine And.intro (by decide) ?_
  refine zT.step ct_X7_longOf_ok ?_
  exact t_longT (by omega) (And.intro rfl (And.intro rfl ⟨σ1, τ1, rfl, S1⟩))
theorem mn_c (p n : Int32) : (if p < n then p else n) = if n < p then n else p := by
  by_cases h1 : p < n
  · rw [if_pos h1]
    by_cases h2 : n < p
    · exact (Int32.lt_irrefl (Int32.lt_trans h1 h2)).elim
    · rw [if_neg h2]
  · rw [if_neg h1]
    by_cases h2 : n < p
    · rw [if_pos h2]
    · rw [if_neg h2]
      exact Int32.le_antisymm (Int32.not_lt.mp h1) (Int32.not_lt.mp h2)
theorem t_owesT {X : zXs} {d : Nat} {x h lg k nm v : Int32} {L : List zSh} {μ : zMem} {Q : zRQ} (hd : 1 ≤ d) (K : Q (some (.int (f_bnd (f_ow k nm lg v (lg * v)) 9999))) L μ) : zT X d m_X7_owesOf Q 0 0 28 [some (.ref 50), some (.int x), some (.int h), some (.int lg), some (.int k), some (.int nm), some (.int v), none, none, none] [] L μ := by
  obtain ⟨p, hp⟩ : ∃ p, p = lg * v := ⟨_, rfl⟩
  rw [← hp] at K
  have fin : ∀ (w pe : Int32), w = f_ow k nm lg v p → zT X d m_X7_owesOf Q 0 0 123 [some (.ref 50), some (.int x), some (.int h), some (.int lg), some (.int k), some (.int nm), some (.int v), some (.int p), some (.int pe), none] [.int w] L μ := by
    intro w pe hw
    refine zT.step ct_X7_owesOf_ok ?_
    refine zT.step ct_X7_owesOf_ok ?_
    refine zT.step ct_X7_owesOf_ok ?_
    refine zT.step ct_X7_owesOf_ok ?_
    refine zT.step ct_X7_owesOf_ok ?_
    refine And.intro (by omega) (zF.use (t_within (by decide)) ?_)
    refine zT.step ct_X7_owesOf_ok ?_
    rw [hw]
    exact K
  have rest : ∀ pe : Int32, pe = (if nm < p then nm else p) → zT X d m_X7_owesOf Q 0 0 50 [some (.ref 50), some (.int x), some (.int h), some (.int lg), some (.int k), some (.int nm), some (.int v), some (.int p), some (.int pe), none] [] L μ := by
    intro pe hpe
    refine zT.step ct_X7_owesOf_ok ?_
    refine zT.step ct_X7_owesOf_ok ?_
    refine zT.step ct_X7_owesOf_ok ?_
    refine And.intro (fun q1 => ?_) (fun q1 => ?_)
    · have q1 : k = 1 := q1
      refine zT.step ct_X7_owesOf_ok ?_
      refine zT.step ct_X7_owesOf_ok ?_
      exact fin _ _ (by simp [f_ow, q1, hpe])
    have q1 : ¬ k = 1 := q1
    refine zT.step ct_X7_owesOf_ok ?_
    refine zT.step ct_X7_owesOf_ok ?_
    refine zT.step ct_X7_owesOf_ok ?_
    refine And.intro (fun q3 => ?_) (fun q3 => ?_)
    · have q3 : k = 3 := q3
      refine zT.step ct_X7_owesOf_ok ?_
      refine zT.step ct_X7_owesOf_ok ?_
      refine zT.step ct_X7_owesOf_ok ?_
      refine And.intro (fun q => ?_) (fun q => ?_)
      · have q : 4 ≤ lg := q
        refine zT.step ct_X7_owesOf_ok ?_
        refine zT.step ct_X7_owesOf_ok ?_
        exact fin _ _ (by simp [f_ow, q3, q, hpe])
      · have q : ¬ 4 ≤ lg := q
        refine zT.step ct_X7_owesOf_ok ?_
        refine zT.step ct_X7_owesOf_ok ?_
        exact fin _ _ (by simp [f_ow, q3, q])
    have q3 : ¬ k = 3 := q3
    refine zT.step ct_X7_owesOf_ok ?_
    refine zT.step ct_X7_owesOf_ok ?_
    refine zT.step ct_X7_owesOf_ok ?_
    refine And.intro (fun q2 => ?_) (fun q2 => ?_)
    · have q2 : k = 2 := q2
      refine zT.step ct_X7_owesOf_ok ?_
      refine zT.step ct_X7_owesOf_ok ?_
      refine zT.step ct_X7_owesOf_ok ?_
      refine zT.step ct_X7_owesOf_ok ?_
      exact fin _ _ (by simp [f_ow, q2])
    have q2 : ¬ k = 2 := q2
    refine zT.step ct_X7_owesOf_ok ?_
    refine zT.step ct_X7_owesOf_ok ?_
    refine zT.step ct_X7_owesOf_ok ?_
    refine And.intro (fun q4 => ?_) (fun q4 => ?_)
    · have q4 : k = 4 := q4
      refine zT.step ct_X7_owesOf_ok ?_
      refine zT.step ct_X7_owesOf_ok ?_
      refine zT.step ct_X7_owesOf_ok ?_
      refine zT.step ct_X7_owesOf_ok ?_
      refine zT.step ct_X7_owesOf_ok ?_
      refine zT.step ct_X7_owesOf_ok ?_
      exact fin _ _ (by simp [f_ow, q4])
    have q4 : ¬ k = 4 := q4
    refine zT.step ct_X7_owesOf_ok ?_
    refine zT.step ct_X7_owesOf_ok ?_
    refine zT.step ct_X7_owesOf_ok ?_
    refine And.intro (fun q5 => ?_) (fun q5 => ?_)
    · have q5 : k = 5 := q5
      refine zT.step ct_X7_owesOf_ok ?_
      refine zT.step ct_X7_owesOf_ok ?_
      exact fin _ _ (by simp [f_ow, q5])
    have q5 : ¬ k = 5 := q5
    refine zT.step ct_X7_owesOf_ok ?_
    exact fin _ _ (by simp [f_ow, q1, q2, q3, q4, q5])
  refine zT.step ct_X7_owesOf_ok ?_
  refine zT.step ct_X7_owesOf_ok ?_
  refine zT.step ct_X7_owesOf_ok ?_
  refine zT.step ct_X7_owesOf_ok ?_
  rw [show (fun x y : Int32 => x * y) lg v = p from hp.symm]
  refine zT.step ct_X7_owesOf_ok ?_
  refine zT.step ct_X7_owesOf_ok ?_
  refine zT.step ct_X7_owesOf_ok ?_
  refine And.intro (fun q => ?_) (fun q => ?_)
  · have q : nm ≤ p := q
    refine zT.step ct_X7_owesOf_ok ?_
    refine zT.step ct_X7_owesOf_ok ?_
    exact rest nm (by rw [← mn_c, if_neg (Int32.not_lt.mpr q)])
  · have q : ¬ nm ≤ p := q
    refine zT.step ct_X7_owesOf_ok ?_
    refine zT.step ct_X7_owesOf_ok ?_
    refine zT.step ct_X7_owesOf_ok ?_
    exact rest p (by rw [← mn_c, if_pos (Int32.not_le.mp q)])
theorem t_owesOf {X : zXs} {d n t m x h : Nat} {a σ : zSg} {τ : Nat → Nat → Int64} {r : Option Nat} {lg : Int32} (hd : 52 ≤ d) (hE : RE a σ n t m) (hx : x < n) : zC X d 0 0 m_X7_owesOf [.ref 50, .int (nI x), .int (nI h), .int lg] L0 (mm σ τ r) (fun y L2 μ2 => y = some (.int (f_owed (a (8 + x) 0) (a (8 + x) 1) lg (f_bnd (tvC a t 1 (g_env (a (8 + x)) (a 1 5) h lg)) 40))) ∧ L2 = L0 ∧ ∃ σ' τ', μ2 = mm σ' τ' r ∧ ST 12 σ σ') := by
  have h8 := hE.1.1
  obtain ⟨k0, r0, r1, r2⟩ := hE.2.2.1 x hx
  have sy := t_says (X := X) (d := d - 1) (τ := τ) (r := r) (w := 1) (h := h) (lg := lg) (by omega) hE hx (by decide)
  rw [show (if (1 : Nat) = 2 then (99 : Int32) else 40) = 40 from rfl] at sy
  generalize f_bnd (tvC a t 1 (g_env (a (8 + x)) (a 1 5) h lg)) 40 = v at sy ⊢
  rw [← k0, ← r0]
  unfold f_owed
  refine zC.of mk_X7_owesOf rfl ?_
  refine zT.step ct_X7_owesOf_ok ?_
  refine zT.step ct_X7_owesOf_ok ?_
  refine And.intro ⟨by decide, _, rfl⟩ ?_
  refine zT.step ct_X7_owesOf_ok ?_
  refine zT.step ct_X7_owesOf_ok ?_
  refine Exists.intro x (And.intro ⟨rfl, by decide, 8, rfl, by omega, by decide⟩ ?_)
  refine zT.step ct_X7_owesOf_ok ?_
  refine zT.step ct_X7_owesOf_ok ?_
  refine zT.step ct_X7_owesOf_ok ?_
  refine And.intro ⟨by decide, _, rfl⟩ ?_
  refine zT.step ct_X7_owesOf_ok ?_
  refine zT.step ct_X7_owesOf_ok ?_
  refine zT.step ct_X7_owesOf_ok ?_
  refine zT.step ct_X7_owesOf_ok ?_
  refine Exists.intro (3 * x) (And.intro ⟨nI_mulN 3 x, by decide, 24, rfl, by omega, by decide⟩ ?_)
  refine zT.step ct_X7_owesOf_ok ?_
  refine zT.step ct_X7_owesOf_ok ?_
  refine zT.step ct_X7_owesOf_ok ?_
  refine zT.step ct_X7_owesOf_ok ?_
  refine zT.step ct_X7_owesOf_ok ?_
  refine zT.step ct_X7_owesOf_ok ?_
  refine zT.step ct_X7_owesOf_ok ?_
  refine And.intro ⟨by omega, by decide, _, rfl⟩ (zC.use sy (fun y L2 μ2 hy => ?_))
  obtain ⟨rfl, rfl, σ1, τ1, rfl, S1⟩ := hy
  refine zT.step ct_X7_owesOf_ok ?_
  exact t_owesT (by omega) (And.intro rfl (And.intro rfl ⟨σ1, τ1, rfl, S1⟩))
theorem t_isDull {X : zXs} {d h : Nat} {σ : zSg} {τ : Nat → Nat → Int64} {r : Option Nat} (hh : h < 13) : zF X d m_X7_isDull [.ref 50, .int (nI h)] L0 (mm σ τ r) (some (.int (f_b (g_dull (σ 50 8) h)))) (mm σ τ r) := by
  unfold g_dull
  refine zF.of mk_X7_isDull rfl ?_
  refine zT.step ct_X7_isDull_ok ?_
  refine zT.step ct_X7_isDull_ok ?_
  refine zT.step ct_X7_isDull_ok ?_
  refine And.intro (fun q => ?_) (fun q => ?_)
  · have q : nI h = nI 6 := q
    have q := (nI_eq (by omega) (by decide)).mp q
    rw [decide_eq_true q]
    refine zT.step ct_X7_isDull_ok ?_
    refine zT.step ct_X7_isDull_ok ?_
    refine zT.step ct_X7_isDull_ok ?_
    exact And.intro rfl (And.intro rfl (And.intro rfl rfl))
  · have q : ¬ nI h = nI 6 := q
    have q : ¬ h = 6 := fun z => q (by rw [z])
    rw [decide_eq_false q, Bool.false_or]
    refine zT.step ct_X7_isDull_ok ?_
    refine zT.step ct_X7_isDull_ok ?_
    refine And.intro ⟨by decide, _, rfl⟩ ?_
    refine zT.step ct_X7_isDull_ok ?_
    refine zT.step ct_X7_isDull_ok ?_
    refine zT.step ct_X7_isDull_ok ?_
    refine zT.step ct_X7_isDull_ok ?_
    refine zT.step ct_X7_isDull_ok ?_
    refine zT.step ct_X7_isDull_ok ?_
    refine And.intro (fun q2 => ?_) (fun q2 => ?_)
    · have q2 : σ 50 8 >>> (nI h &&& 31) &&& 1 = 1 := q2
      rw [decide_eq_true q2]
      refine zT.step ct_X7_isDull_ok ?_
      refine zT.step ct_X7_isDull_ok ?_
      refine zT.step ct_X7_isDull_ok ?_
      exact And.intro rfl (And.intro rfl (And.intro rfl rfl))
    · have q2 : ¬ σ 50 8 >>> (nI h &&& 31) &&& 1 = 1 := q2
      rw [decide_eq_false q2]
      refine zT.step ct_X7_isDull_ok ?_
      refine zT.step ct_X7_isDull_ok ?_
      exact And.intro rfl (And.intro rfl (And.intro rfl rfl))
/-- how LONG, what is due of those that aren't hidden: by a -/
theorem t_stands {X : zXs} {d n t m x h c : Nat} {a σ : zSg} {τ : Nat → Nat → Int64} {r : Option Nat} {hi : Int32} (hd : 53 ≤ d) (hE : RE a σ n t m) (hx : x < n) (hc : a (8 + x) 3 = nI c) (hc30 : c < 30) (hdl : g_dull (a 1 6) h = false) : zC X d 0 0 m_X7_stands [.ref 50, .int (nI x), .int (nI h), .int hi] L0 (mm σ τ r) (fun y L2 μ2 => y = none ∧ L2 = L0 ∧ ∃ σ' τ', μ2 = mm σ' τ' r ∧ (∀ b, b ≠ 50 → b ≠ 56 → b ≠ 57 → b ≠ 58 → σ' b = σ b) ∧ (∀ k, (k < 12 ∨ 26 < k) → σ' 50 k = σ 50 k) ∧ σ' 56 = upd (σ 56) x (cL a t h x) ∧ σ' 57 = upd (σ 57) x (f_b (bt hi c)) ∧ σ' 58 = upd (σ 58) x (bif bt hi c then 0 else cD a t h x)) := by
  have h8 := hE.1.1
  obtain ⟨k0, r0, r1, r2⟩ := hE.2.2.1 x hx
  have eL : cL a t h x = g_lg (a (8 + x)) (a 1 5) (tvC a t) h := by unfold cL g_L; rw [hdl]; rfl
  have eD : cD a t h x = g_dl (a (8 + x)) (a 1 5) (tvC a t) h (cL a t h x) := by rw [eL]; unfold cD g_D; rw [hdl]; rfl
  have lo := t_longOf (X := X) (d := d - 1) (τ := τ) (r := r) (h := h) (by omega) hE hx
  rw [← eL] at lo
  unfold g_dl at eD
  generalize cL a t h x = lg at lo eD ⊢
  refine zC.of mk_X7_stands rfl ?_
  refine zT.step ct_X7_stands_ok ?_
  refine zT.step ct_X7_stands_ok ?_
  refine zT.step ct_X7_stands_ok ?_
  refine zT.step ct_X7_stands_ok ?_
  refine And.intro ⟨by omega, by decide, _, rfl⟩ (zC.use lo (fun y L2 μ2 hy => ?_))
  obtain ⟨rfl, rfl, σ1, τ1, rfl, S1⟩ := hy
  refine zT.step ct_X7_stands_ok ?_
  refine zT.step ct_X7_stands_ok ?_
  refine zT.step ct_X7_stands_ok ?_
  refine And.intro ⟨by decide, _, rfl⟩ ?_
  refine zT.step ct_X7_stands_ok ?_
  refine zT.step ct_X7_stands_ok ?_
  refine zT.step ct_X7_stands_ok ?_
  refine Exists.intro x (And.intro ⟨rfl, by decide, 8, rfl, by omega, by decide⟩ ?_)
  refine zT.step ct_X7_stands_ok ?_
  refine zT.step ct_X7_stands_ok ?_
  refine And.intro ⟨by decide, _, rfl⟩ ?_
  refine zT.step ct_X7_stands_ok ?_
  refine zT.step ct_X7_stands_ok ?_
  refine zT.step ct_X7_stands_ok ?_
  refine zT.step ct_X7_stands_ok ?_
  refine And.intro ⟨by decide, _, rfl⟩ ?_
  refine zT.step ct_X7_stands_ok ?_
  refine zT.step ct_X7_stands_ok ?_
  refine zT.step ct_X7_stands_ok ?_
  refine zT.step ct_X7_stands_ok ?_
  refine zT.step ct_X7_stands_ok ?_
  refine zT.step ct_X7_stands_ok ?_
  refine Exists.intro (3 * x + 2) (And.intro ⟨nI_3x x 2, by decide, 24, rfl, by omega, by decide⟩ ?_)
  have e55 : z_up σ1 56 x lg 55 (3 * x + 2) = nI c := by
    rw [zu_n _ _ _ _ _ (by decide), S1.1 55 (by decide), r2, hc]
  have ebit : hi >>> (z_up σ1 56 x lg 55 (3 * x + 2) &&& 31) &&& 1 = f_b (bt hi c) := by rw [e55]; exact b_bit (by omega)
  refine zT.step ct_X7_stands_ok ?_
  refine zT.step ct_X7_stands_ok ?_
  refine zT.step ct_X7_stands_ok ?_
  show zT X d m_X7_stands _ 0 0 35 _ [.int (hi >>> (z_up σ1 56 x lg 55 (3 * x + 2) &&& 31) &&& 1), .int (nI x), .ref 57] L0 _
  rw [ebit]
  refine zT.step ct_X7_stands_ok ?_
  refine Exists.intro x (And.intro ⟨rfl, by decide, 8, rfl, by omega, by decide⟩ ?_)
  refine zT.abs (τ := τ1) (r := r) rfl fun σ2 e2 => ?_
  simp only [sI_1, mm_1] at e2
  have S2 : SG σ σ2 := by rw [e2]; exact (S1.sg.trans (SG.u5 (Or.inl rfl))).trans (SG.u5 (Or.inr (Or.inl rfl)))
  have b31 : ∀ k, (k < 12 ∨ 26 < k) → σ2 50 k = σ 50 k := fun k hk => by
    rw [e2, zu_n _ _ _ _ _ (by decide), zu_n _ _ _ _ _ (by decide)]
    exact S1.2 k hk
  have a56 : σ2 56 = upd (σ 56) x lg := by rw [e2, zu_n _ _ _ _ _ (by decide), zu_s, S1.1 56 (by decide)]
  have a57 : σ2 57 = upd (σ 57) x (f_b (bt hi c)) := by rw [e2, zu_s, zu_n _ _ _ _ _ (by decide), S1.1 57 (by decide)]
  have a58 : σ2 58 = σ 58 := by rw [e2, zu_n _ _ _ _ _ (by decide), zu_n _ _ _ _ _ (by decide), S1.1 58 (by decide)]
  have c57 : σ2 57 x = f_b (bt hi c) := by rw [a57, upd_at]
  clear e2
  -- from 68 on: the due
  have fin : ∀ (σ3 : zSg) (τ3 : Nat → Nat → Int64) (v : Int32), ST 12 σ2 σ3 → (bif bt hi c then 0 else cD a t h x) = (bif bt hi c then 0 else g_mx v) → zT X d m_X7_stands (fun y L2 μ2 => y = none ∧ L2 = L0 ∧ ∃ σ' τ', μ2 = mm σ' τ' r ∧ (∀ b, b ≠ 50 → b ≠ 56 → b ≠ 57 → b ≠ 58 → σ' b = σ b) ∧ (∀ k, (k < 12 ∨ 26 < k) → σ' 50 k = σ 50 k) ∧ σ' 56 = upd (σ 56) x lg ∧ σ' 57 = upd (σ 57) x (f_b (bt hi c)) ∧ σ' 58 = upd (σ 58) x (bif bt hi c then 0 else cD a t h x)) 0 0 68 [some (.ref 50), some (.int (nI x)), some (.int (nI h)), some (.int hi), some (.int lg), none] [.int v] L0 (mm σ3 τ3 r) := by
    intro σ3 τ3 v S3 hv
    have d57 : σ3 57 x = f_b (bt hi c) := by rw [S3.1 57 (by decide)]; exact c57
    have put : ∀ w : Int32, w = (bif bt hi c then 0 else cD a t h x) → zT X d m_X7_stands (fun y L2 μ2 => y = none ∧ L2 = L0 ∧ ∃ σ' τ', μ2 = mm σ' τ' r ∧ (∀ b, b ≠ 50 → b ≠ 56 → b ≠ 57 → b ≠ 58 → σ' b = σ b) ∧ (∀ k, (k < 12 ∨ 26 < k) → σ' 50 k = σ 50 k) ∧ σ' 56 = upd (σ 56) x lg ∧ σ' 57 = upd (σ 57) x (f_b (bt hi c)) ∧ σ' 58 = upd (σ 58) x (bif bt hi c then 0 else cD a t h x)) 0 0 96 [some (.ref 50), some (.int (nI x)), some (.int (nI h)), some (.int hi), some (.int lg), some (.int v)] [.int w, .int (nI x), .ref 58] L0 (mm σ3 τ3 r) := by
      intro w hw
      refine zT.step ct_X7_stands_ok ?_
      refine Exists.intro x (And.intro ⟨rfl, by decide, 8, rfl, by omega, by decide⟩ ?_)
      refine zT.step ct_X7_stands_ok ?_
      refine And.intro rfl (And.intro rfl ⟨z_up σ3 58 x w, τ3, rfl, fun b b0 b6 b7 b8 => ?_, fun k hk => ?_, ?_, ?_, ?_⟩)
      · rw [zu_n _ _ _ _ _ b8, S3.1 b b0]; exact S2.1 b b0 b6 b7 b8
      · rw [zu_n _ _ _ _ _ (by decide), S3.2 k hk]; exact b31 k hk
      · rw [zu_n _ _ _ _ _ (by decide), S3.1 56 (by decide)]; exact a56
      · rw [zu_n _ _ _ _ _ (by decide), S3.1 57 (by decide)]; exact a57
      · rw [zu_s, S3.1 58 (by decide), a58, hw]
    refine zT.step ct_X7_stands_ok ?_
    refine zT.step ct_X7_stands_ok ?_
    refine zT.step ct_X7_stands_ok ?_
    refine And.intro ⟨by decide, _, rfl⟩ ?_
    refine zT.step ct_X7_stands_ok ?_
    refine zT.step ct_X7_stands_ok ?_
    refine zT.step ct_X7_stands_ok ?_
    refine And.intro ⟨by decide, _, rfl⟩ ?_
    refine zT.step ct_X7_stands_ok ?_
    refine zT.step ct_X7_stands_ok ?_
    refine Exists.intro x (And.intro ⟨rfl, by decide, 8, rfl, by omega, by decide⟩ ?_)
    show zT X d m_X7_stands _ 0 0 81 _ [.int (σ3 57 x), .int (nI x), .ref 58] _ _
    rw [d57]
    cases hb : bt hi c with
    | true =>
      rw [hb] at put hv
      refine zT.step ct_X7_stands_ok ?_
      refine zT.step ct_X7_stands_ok ?_
      refine And.intro (fun _ => ?_) (fun q => absurd rfl q)
      refine zT.step ct_X7_stands_ok ?_
      refine zT.step ct_X7_stands_ok ?_
      exact put 0 rfl
    | false =>
      rw [hb] at put hv
      have hv : cD a t h x = g_mx v := hv
      refine zT.step ct_X7_stands_ok ?_
      refine zT.step ct_X7_stands_ok ?_
      refine And.intro (fun q => absurd q (by decide)) (fun _ => ?_)
      refine zT.step ct_X7_stands_ok ?_
      refine zT.step ct_X7_stands_ok ?_
      refine And.intro (fun q => ?_) (fun q => ?_)
      · have q : 0 ≤ v := q
        refine zT.step ct_X7_stands_ok ?_
        refine put v ?_
        show v = cD a t h x
        rw [hv]
        unfold g_mx
        by_cases z : 0 < v
        · rw [if_pos z]
        · rw [if_neg z]
          exact Int32.le_antisymm (Int32.not_lt.mp z) q
      · have q : ¬ 0 ≤ v := q
        refine zT.step ct_X7_stands_ok ?_
        refine zT.step ct_X7_stands_ok ?_
        refine put 0 ?_
        show 0 = cD a t h x
        rw [hv]
        unfold g_mx
        rw [if_neg (fun z => q (Int32.le_of_lt z))]
  refine zT.step ct_X7_stands_ok ?_
  refine zT.step ct_X7_stands_ok ?_
  refine And.intro ⟨by decide, _, rfl⟩ ?_
  refine zT.step ct_X7_stands_ok ?_
  refine zT.step ct_X7_stands_ok ?_
  refine Exists.intro x (And.intro ⟨rfl, by decide, 8, rfl, by omega, by decide⟩ ?_)
  show zT X d m_X7_stands _ 0 0 42 _ [.int (σ2 57 x)] _ _
  rw [c57]
  cases hb : bt hi c with
  | true =>
    rw [hb] at fin
    refine zT.step ct_X7_stands_ok ?_
    refine zT.step ct_X7_stands_ok ?_
    refine And.intro (fun _ => ?_) (fun q => absurd rfl q)
    refine zT.step ct_X7_stands_ok ?_
    refine zT.step ct_X7_stands_ok ?_
    exact fin σ2 τ1 0 ST.rf rfl
  | false =>
    rw [hb] at fin
    have E2 := hE.sg S2
    have ow := t_owesOf (X := X) (d := d - 1) (τ := τ1) (r := r) (h := h) (lg := lg) (by omega) E2 hx
    generalize f_owed (a (8 + x) 0) (a (8 + x) 1) lg (f_bnd (tvC a t 1 (g_env (a (8 + x)) (a 1 5) h lg)) 40) = owe at ow eD
    refine zT.step ct_X7_stands_ok ?_
    refine zT.step ct_X7_stands_ok ?_
    refine And.intro (fun q => absurd q (by decide)) (fun _ => ?_)
    refine zT.step ct_X7_stands_ok ?_
    refine zT.step ct_X7_stands_ok ?_
    refine zT.step ct_X7_stands_ok ?_
    refine zT.step ct_X7_stands_ok ?_
    refine zT.step ct_X7_stands_ok ?_
    refine And.intro ⟨by omega, by decide, _, rfl⟩ (zC.use ow (fun y L2 μ2 hy => ?_))
    obtain ⟨rfl, rfl, σ3, τ3, rfl, S3⟩ := hy
    have E3 := E2.sg S3.sg
    have sy := t_says (X := X) (d := d - 1) (τ := τ3) (r := r) (w := 2) (h := h) (lg := lg) (by omega) E3 hx (by decide)
    rw [show (if (2 : Nat) = 2 then (99 : Int32) else 40) = 99 from rfl] at sy
    generalize f_bnd (tvC a t 2 (g_env (a (8 + x)) (a 1 5) h lg)) 99 = so at sy eD
    refine zT.step ct_X7_stands_ok ?_
    refine zT.step ct_X7_stands_ok ?_
    refine zT.step ct_X7_stands_ok ?_
    refine zT.step ct_X7_stands_ok ?_
    refine zT.step ct_X7_stands_ok ?_
    refine zT.step ct_X7_stands_ok ?_
    refine And.intro ⟨by omega, by decide, _, rfl⟩ (zC.use sy (fun y L2 μ2 hy => ?_))
    obtain ⟨rfl, rfl, σ4, τ4, rfl, S4⟩ := hy
    refine zT.step ct_X7_stands_ok ?_
    exact fin σ4 τ4 (owe - so) (S3.trans S4) eD
