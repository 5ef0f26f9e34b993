/-! the reference's state while it reads: fail, next, isSign, isWord, opens, name -/
def z_pk (k : Nat) : Bool := Nat.ble 20 k && Nat.ble k 26
/-- the same but for what reading writes -/
def SP (σ σ' : zSg) : Prop := (∀ b, b ≠ 50 → σ' b = σ b) ∧ ∀ k, z_pk k = false → σ' 50 k = σ 50 k
theorem SP.rf {σ : zSg} : SP σ σ := ⟨fun _ _ => rfl, fun _ _ => rfl⟩
theorem SP.trans {a b c : zSg} (h1 : SP a b) (h2 : SP b c) : SP a c := ⟨fun x hx => (h2.1 x hx).trans (h1.1 x hx), fun k hk => (h2.2 k hk).trans (h1.2 k hk)⟩
theorem SP.up {σ : zSg} {k : Nat} {v : Int32} (h : z_pk k = true) : SP σ (z_up σ 50 k v) := ⟨fun b hb => zu_n _ _ _ _ _ hb, fun j hj => zu_k _ _ _ _ _ (fun e => by rw [e, h] at hj; cases hj)⟩
theorem SN.sp {σ σ' : zSg} (h : SN σ σ') : SP σ σ' := ⟨h.1, fun k hk => h.2 k (fun e => by rw [e] at hk; cases hk) (fun e => by rw [e] at hk; cases hk) (fun e => by rw [e] at hk; cases hk)⟩
theorem SP.bytes {σ σ' : zSg} (h : SP σ σ') (t : Nat) : tB σ' t = tB σ t := by
  funext i
  show σ' 51 _ = σ 51 _
  rw [h.1 51 (by decide)]
theorem SP.rb {σ σ' : zSg} (h : SP σ σ') {t sz : Nat} (hB : RB σ t sz) : RB σ' t sz := by
  obtain ⟨h1, h2, h3, h4, h5⟩ := hB
  exact ⟨by rw [h.2 18 rfl]; exact h1, by rw [h.2 19 rfl]; exact h2, h3, h4, fun i hi => by rw [h.1 51 (by decide)]; exact h5 i hi⟩
def RP (σ : zSg) (τ : Nat → Nat → Int64) (t sz : Nat) (s : PS) (o : Nat) : Prop := RB σ t sz ∧ s.1 ≤ sz ∧ σ 50 24 = nI o ∧ σ 50 25 = f_b s.2 ∧ (s.2 = false → TF σ τ (tB σ t) sz s.1) ∧ (s.2 = true → σ 50 26 = nI (lx_b (tB σ t) sz s.1))
theorem ps_fb {s : PS} (h : s.2 = true) : ps_f s = s := by obtain ⟨p, b⟩ := s; cases h; rfl
theorem t_fail {X : zXs} {d t sz o : Nat} {σ : zSg} {τ : Nat → Nat → Int64} {r : Option Nat} {s : PS} (hR : RP σ τ t sz s o) : zC X d 0 0 m_X7_fail [.ref 50] L0 (mm σ τ r) (fun w L2 μ2 => w = none ∧ L2 = L0 ∧ ∃ σ', μ2 = mm σ' τ r ∧ SP σ σ' ∧ RP σ' τ t sz (ps_f s) o) := by
  obtain ⟨hB, hs, h24, h25, hF, h26⟩ := hR
  refine zC.of mk_X7_fail rfl ?_
  refine zT.step ct_X7_fail_ok ?_
  refine zT.step ct_X7_fail_ok ?_
  refine And.intro ⟨by decide, _, rfl⟩ ?_
  refine zT.step ct_X7_fail_ok ?_
  refine And.intro (fun h => ?_) (fun h => ?_)
  · have h : σ 50 25 = 0 := h
    rw [h25] at h
    have h := fb0 h
    have hF := hF h
    refine zT.step ct_X7_fail_ok ?_
    refine zT.step ct_X7_fail_ok ?_
    refine zT.step ct_X7_fail_ok ?_
    refine And.intro ⟨⟨by decide, _, rfl⟩, by decide⟩ ?_
    refine zT.step ct_X7_fail_ok ?_
    refine zT.step ct_X7_fail_ok ?_
    refine zT.step ct_X7_fail_ok ?_
    refine And.intro ⟨by decide, _, rfl⟩ ?_
    refine zT.step ct_X7_fail_ok ?_
    refine And.intro ⟨by decide, _, rfl⟩ ?_
    refine zT.step ct_X7_fail_ok ?_
    refine And.intro rfl (And.intro rfl ⟨z_up (z_up σ 50 25 1) 50 26 (z_up σ 50 25 1 50 22), rfl, (SP.up rfl).trans (SP.up rfl), ?_⟩)
    have sp : SP σ (z_up (z_up σ 50 25 1) 50 26 (z_up σ 50 25 1 50 22)) := (SP.up rfl).trans (SP.up rfl)
    refine ⟨sp.rb hB, hs, ?_, ?_, (fun h => by cases h), fun _ => ?_⟩
    · rw [zu_k _ _ _ _ _ (by decide), zu_k _ _ _ _ _ (by decide)]; exact h24
    · rw [zu_k _ _ _ _ _ (by decide), z_up_s]; rfl
    · rw [sp.bytes, z_up_s, zu_k _ _ _ _ _ (by decide)]; exact hF.1
  · have h : ¬ σ 50 25 = 0 := h
    rw [h25] at h
    have h := fb1 h
    refine zT.step ct_X7_fail_ok ?_
    exact And.intro rfl (And.intro rfl ⟨σ, rfl, SP.rf, by rw [ps_fb h]; exact ⟨hB, hs, h24, h25, hF, h26⟩⟩)
theorem k_tok_lt {f : Nat → Int32} {sz p : Nat} (h : k_tok f sz p = 1 ∨ k_tok f sz p = 2 ∨ k_tok f sz p = 3) : lx_t f sz p ≠ -30 := by
  intro q
  have := tok_en.mp q
  omega
theorem t_nextP {X : zXs} {d t sz o : Nat} {σ : zSg} {τ : Nat → Nat → Int64} {r : Option Nat} {s : PS} (hd : 2 ≤ d) (hR : RP σ τ t sz s o) (hs2 : s.2 = false) (hk : k_tok (tB σ t) sz s.1 = 1 ∨ k_tok (tB σ t) sz s.1 = 2 ∨ k_tok (tB σ t) sz s.1 = 3) : zC X d 0 0 m_X7_next [.ref 50] L0 (mm σ τ r) (fun w L2 μ2 => w = none ∧ L2 = L0 ∧ ∃ σ' τ', μ2 = mm σ' τ' r ∧ SP σ σ' ∧ RP σ' τ' t sz (ps_a (tB σ t) sz s) o) := by
  obtain ⟨hB, hs, h24, h25, hF, h26⟩ := hR
  have hF := hF hs2
  have he := lx_e_le (f := tB σ t) hs
  refine zC.wk (t_next (p := lx_e (tB σ t) sz s.1) hd hB (hF.2.2.1 hk) he.2.1) (fun w L2 μ2 hw => ?_)
  obtain ⟨hw, hL, σ', τ', hμ, hN, hT⟩ := hw
  refine ⟨hw, hL, σ', τ', hμ, hN.sp, hN.rb hB, he.2.1, ?_, ?_, fun _ => ?_, fun h => ?_⟩
  · rw [hN.2 24 (by decide) (by decide) (by decide)]; exact h24
  · rw [hN.2 25 (by decide) (by decide) (by decide)]; exact h25
  · rw [hN.bytes]; exact hT
  · have h : s.2 = true := h
    rw [hs2] at h
    cases h
theorem i64_inj {x y : Int32} (h : x.toInt64 = y.toInt64) : x = y := by
  have := congrArg Int64.toInt32 h
  rw [Int32.toInt32_toInt64, Int32.toInt32_toInt64] at this
  exact this
theorem ps_tf {f : Nat → Int32} {sz : Nat} {s : PS} (h : s.2 = false) : ps_t f sz s = lx_t f sz s.1 := by unfold ps_t; rw [h]; rfl
theorem ps_tt {f : Nat → Int32} {sz : Nat} {s : PS} (h : s.2 = true) : ps_t f sz s = -31 := by unfold ps_t; rw [h]; rfl
theorem t_isSign {X : zXs} {d t sz o : Nat} {σ : zSg} {τ : Nat → Nat → Int64} {r : Option Nat} {s : PS} {q : Int32 × Int32} (hq : q ∈ z_sgl) (hR : RP σ τ t sz s o) : zF X d m_X7_isSign [.ref 50, .int q.1] L0 (mm σ τ r) (some (.int (f_b (decide (ps_t (tB σ t) sz s = q.2))))) (mm σ τ r) := by
  obtain ⟨hB, hs, h24, h25, hF, h26⟩ := hR
  have hn := z_sg_n q hq
  have no : ps_t (tB σ t) sz s ≠ q.2 → zT X d m_X7_isSign (fun w L2 μ2 => w = some (.int (f_b (decide (ps_t (tB σ t) sz s = q.2)))) ∧ L2 = L0 ∧ μ2 = mm σ τ r) 0 0 29 [some (.ref 50), some (.int q.1)] [] L0 (mm σ τ r) := by
    intro h
    rw [decide_eq_false h]
    refine zT.step ct_X7_isSign_ok ?_
    refine zT.step ct_X7_isSign_ok ?_
    exact And.intro rfl (And.intro rfl (And.intro rfl rfl))
  refine zF.of mk_X7_isSign rfl ?_
  refine zT.step ct_X7_isSign_ok ?_
  refine zT.step ct_X7_isSign_ok ?_
  refine And.intro ⟨by decide, _, rfl⟩ ?_
  refine zT.step ct_X7_isSign_ok ?_
  refine And.intro (fun h => ?_) (fun h => ?_)
  · have h : σ 50 25 = 0 := h
    rw [h25] at h
    have h := fb0 h
    have hF := hF h
    have hts := tok_sg (f := tB σ t) (sz := sz) (p := s.1) hq
    rw [ps_tf h] at no ⊢
    refine zT.step ct_X7_isSign_ok ?_
    refine zT.step ct_X7_isSign_ok ?_
    refine And.intro ⟨by decide, _, rfl⟩ ?_
    refine zT.step ct_X7_isSign_ok ?_
    refine zT.step ct_X7_isSign_ok ?_
    refine And.intro (fun h2 => ?_) (fun h2 => ?_)
    · have h2 : σ 50 21 = nI 3 := h2
      rw [hF.2.1] at h2
      have h2 : k_tok (tB σ t) sz s.1 = 3 := by
        refine (nI_eq ?_ (by decide)).mp h2
        rcases k_tok_v (tB σ t) sz s.1 with z | z | z | z | z <;> (rw [z.1]; decide)
      refine zT.step ct_X7_isSign_ok ?_
      refine zT.step ct_X7_isSign_ok ?_
      refine And.intro ⟨by decide, _, rfl⟩ ?_
      refine zT.step ct_X7_isSign_ok ?_
      refine zT.step ct_X7_isSign_ok ?_
      refine zT.step ct_X7_isSign_ok ?_
      refine zT.step ct_X7_isSign_ok ?_
      refine And.intro (fun h3 => ?_) (fun h3 => ?_)
      · have h3 : τ 50 23 = q.1.toInt64 := (lg_cmp_eq _ _).mp h3
        rw [hF.2.2.2.2 h2] at h3
        have h3 := i64_inj h3
        rw [decide_eq_true (hts.mpr ⟨h2, h3⟩)]
        refine zT.step ct_X7_isSign_ok ?_
        refine zT.step ct_X7_isSign_ok ?_
        refine zT.step ct_X7_isSign_ok ?_
        exact And.intro rfl (And.intro rfl (And.intro rfl rfl))
      · have h3 : ¬ τ 50 23 = q.1.toInt64 := fun z => h3 ((lg_cmp_eq _ _).mpr z)
        rw [hF.2.2.2.2 h2] at h3
        exact no (fun z => h3 (by rw [(hts.mp z).2]))
    · have h2 : ¬ σ 50 21 = nI 3 := h2
      rw [hF.2.1] at h2
      exact no (fun z => h2 (by rw [(hts.mp z).1]))
  · have h : ¬ σ 50 25 = 0 := h
    rw [h25] at h
    have h := fb1 h
    exact no (by rw [ps_tt h]; exact fun z => hn.1 z.symm)
/-- a letter of a word -/
def wL (f : Nat → Int32) (b e j : Nat) (c : Int32) : Bool := if b + j < e then decide (f (b + j) = c) else decide (c = 0)
theorem t_isLetter {X : zXs} {d t sz b e j : Nat} {σ : zSg} {τ : Nat → Nat → Int64} {r : Option Nat} {x c : Int32} (hd : 1 ≤ d) (hB : RB σ t sz) (h22 : σ 50 22 = nI b) (h20 : σ 50 20 = nI e) (he : e ≤ sz) (hb : b ≤ sz) (hj : j < 8) (hx : x = nI j) : zF X d m_X7_isLetter [.ref 50, .int x, .int c] L0 (mm σ τ r) (some (.int (f_b (wL (tB σ t) b e j c)))) (mm σ τ r) := by
  subst hx
  have hsz := hB.2.2.1
  have e1 : σ 50 22 + nI j = nI (b + j) := by rw [h22, nI_add]
  unfold wL
  refine zF.of mk_X7_isLetter rfl ?_
  refine zT.step ct_X7_isLetter_ok ?_
  refine zT.step ct_X7_isLetter_ok ?_
  refine And.intro ⟨by decide, _, rfl⟩ ?_
  refine zT.step ct_X7_isLetter_ok ?_
  refine zT.step ct_X7_isLetter_ok ?_
  refine zT.step ct_X7_isLetter_ok ?_
  refine zT.step ct_X7_isLetter_ok ?_
  refine And.intro ⟨by decide, _, rfl⟩ ?_
  refine zT.step ct_X7_isLetter_ok ?_
  refine And.intro (fun h => ?_) (fun h => ?_)
  · have h : σ 50 20 ≤ σ 50 22 + nI j := h
    rw [h20, e1] at h
    have h := (nI_leI (by omega) (by omega)).mp h
    rw [if_neg (by omega)]
    refine zT.step ct_X7_isLetter_ok ?_
    refine zT.step ct_X7_isLetter_ok ?_
    refine And.intro (fun h2 => ?_) (fun h2 => ?_)
    · have h2 : c = 0 := h2
      rw [decide_eq_true h2]
      refine zT.step ct_X7_isLetter_ok ?_
      refine zT.step ct_X7_isLetter_ok ?_
      refine zT.step ct_X7_isLetter_ok ?_
      exact And.intro rfl (And.intro rfl (And.intro rfl rfl))
    · have h2 : ¬ c = 0 := h2
      rw [decide_eq_false h2]
      refine zT.step ct_X7_isLetter_ok ?_
      refine zT.step ct_X7_isLetter_ok ?_
      exact And.intro rfl (And.intro rfl (And.intro rfl rfl))
  · have h : ¬ σ 50 20 ≤ σ 50 22 + nI j := h
    rw [h20, e1] at h
    have h : b + j < e := i_ge rfl rfl (by omega) (by omega) h
    have f1 := t_byteAt (X := X) (d := d - 1) (τ := τ) (r := r) hB e1 (by omega)
    rw [show bA (tB σ t) sz (b + j) = tB σ t (b + j) by unfold bA; rw [if_pos (by omega)]] at f1
    rw [if_pos h]
    refine zT.step ct_X7_isLetter_ok ?_
    refine zT.step ct_X7_isLetter_ok ?_
    refine zT.step ct_X7_isLetter_ok ?_
    refine And.intro ⟨by decide, _, rfl⟩ ?_
    refine zT.step ct_X7_isLetter_ok ?_
    refine zT.step ct_X7_isLetter_ok ?_
    refine zT.step ct_X7_isLetter_ok ?_
    refine And.intro ⟨hd, by decide, _, rfl⟩ (zF.use f1 ?_)
    refine zT.step ct_X7_isLetter_ok ?_
    refine zT.step ct_X7_isLetter_ok ?_
    refine And.intro (fun h2 => ?_) (fun h2 => ?_)
    · have h2 : tB σ t (b + j) = c := h2
      rw [decide_eq_true h2]
      refine zT.step ct_X7_isLetter_ok ?_
      refine zT.step ct_X7_isLetter_ok ?_
      refine zT.step ct_X7_isLetter_ok ?_
      exact And.intro rfl (And.intro rfl (And.intro rfl rfl))
    · have h2 : ¬ tB σ t (b + j) = c := h2
      rw [decide_eq_false h2]
      refine zT.step ct_X7_isLetter_ok ?_
      refine zT.step ct_X7_isLetter_ok ?_
      refine zT.step ct_X7_isLetter_ok ?_
      exact And.intro rfl (And.intro rfl (And.intro rfl rfl))
theorem lx_w_in {c : Int32 → Bool} {f : Nat → Int32} : ∀ (m p x : Nat), p ≤ x → x < lx_w c f m p → c (f x) = true := by
  intro m
  induction m with
  | zero => intro p x h1 h2; have h2 : x < p := h2; omega
  | succ m ih =>
    intro p x h1 h2
    unfold lx_w at h2
    cases hc : c (f p) with
    | false => rw [hc] at h2; have h2 : x < p := h2; omega
    | true =>
      rw [hc] at h2
      by_cases hx : x = p
      · rw [hx]; exact hc
      · exact ih (p + 1) x (by omega) h2
theorem k_tok_1 {f : Nat → Int32} {sz p : Nat} (h : k_tok f sz p = 1) : ∀ x, lx_b f sz p ≤ x → x < lx_e f sz p → isL (f x) = true := by
  intro x h1 h2
  unfold k_tok at h
  by_cases h3 : sz ≤ lx_b f sz p
  · rw [if_pos h3] at h; cases h
  rw [if_neg h3] at h
  cases hl : isL (f (lx_b f sz p)) with
  | false =>
    rw [hl] at h
    have h : (bif isD (f (lx_b f sz p)) then (if 4 < lx_e f sz p - lx_b f sz p then 4 else 2) else if lx_sg (f (lx_b f sz p)) = -31 then 4 else 3) = 1 := h
    cases hd : isD (f (lx_b f sz p)) with
    | false => rw [hd] at h; have h : (if lx_sg (f (lx_b f sz p)) = -31 then 4 else 3) = 1 := h; split at h <;> cases h
    | true => rw [hd] at h; have h : (if 4 < lx_e f sz p - lx_b f sz p then 4 else 2) = 1 := h; split at h <;> cases h
  | true =>
    unfold lx_e lx_e0 at h2
    rw [if_neg h3, hl] at h2
    exact lx_w_in _ _ x h1 h2
theorem z_sb_n : ∀ i, i < 12 → ∀ j, j < 8 → (j < z_sl.getD i 0 → (z_sb.getD i []).getD j 0 ≠ 0) ∧ (z_sl.getD i 0 ≤ j → (z_sb.getD i []).getD j 0 = 0) := by decide
theorem wL_is {f : Nat → Int32} {sz p i : Nat} (hi : i < 12) (hk : k_tok f sz p = 1) : lx_is f i (lx_b f sz p) (lx_e f sz p) = true ↔ lx_e f sz p ≤ lx_b f sz p + 8 ∧ ∀ j, j < 8 → wL f (lx_b f sz p) (lx_e f sz p) j ((z_sb.getD i []).getD j 0) = true := by
  have hL := k_tok_1 hk
  have hbe : lx_b f sz p ≤ lx_e f sz p := by
    have := lx_e0_le (f := f) (sz := sz) (b := lx_b f sz p) (by
      rcases Nat.lt_or_ge sz (lx_b f sz p) with q | q
      · unfold k_tok at hk; rw [if_pos (by omega)] at hk; cases hk
      · exact q)
    exact this.1
  have h6 := z_sl_b i hi
  have hl := z_sb_l i hi
  generalize lx_b f sz p = b at hL hbe ⊢
  generalize lx_e f sz p = e at hL hbe ⊢
  unfold lx_is
  rw [Bool.and_eq_true, decide_eq_true_eq, lx_eq_iff, hl]
  constructor
  · intro h
    refine ⟨by omega, fun j hj => ?_⟩
    have hz := z_sb_n i hi j hj
    unfold wL
    by_cases h1 : b + j < e
    · rw [if_pos h1, decide_eq_true_eq]
      exact (h.2 j (by omega)).symm
    · rw [if_neg h1, decide_eq_true_eq]
      exact hz.2 (by omega)
  · intro h
    have hlen : e - b = z_sl.getD i 0 := by
      rcases Nat.lt_trichotomy (e - b) (z_sl.getD i 0) with q | q | q
      · have := h.2 (e - b) (by omega)
        unfold wL at this
        rw [if_neg (by omega), decide_eq_true_eq] at this
        exact absurd this ((z_sb_n i hi (e - b) (by omega)).1 q)
      · exact q
      · have := h.2 (z_sl.getD i 0) (by omega)
        unfold wL at this
        rw [if_pos (by omega), decide_eq_true_eq, (z_sb_n i hi _ (by omega)).2 (Nat.le_refl _)] at this
        have h2 := hL (b + z_sl.getD i 0) (by omega) (by omega)
        rw [this] at h2
        exact absurd h2 (by decide)
    refine ⟨hlen, fun j hj => ?_⟩
    have := h.2 j (by omega)
    unfold wL at this
    rw [if_pos (by omega), decide_eq_true_eq] at this
    exact this.symm
theorem t_isWord {X : zXs} {d t sz o i : Nat} {σ : zSg} {τ : Nat → Nat → Int64} {r : Option Nat} {s : PS} (hi : i < 12) (hd : 2 ≤ d) (hR : RP σ τ t sz s o) : zF X d m_X7_isWord [.ref 50, .int ((z_sb.getD i []).getD 0 0), .int ((z_sb.getD i []).getD 1 0), .int ((z_sb.getD i []).getD 2 0), .int ((z_sb.getD i []).getD 3 0), .int ((z_sb.getD i []).getD 4 0), .int ((z_sb.getD i []).getD 5 0), .int ((z_sb.getD i []).getD 6 0), .int ((z_sb.getD i []).getD 7 0)] L0 (mm σ τ r) (some (.int (f_b (decide (ps_t (tB σ t) sz s = z_wcd.getD i 0))))) (mm σ τ r) := by
  obtain ⟨hB, hs, h24, h25, hF, h26⟩ := hR
  have hn := z_wcd_n i hi
  obtain ⟨W, hW⟩ : ∃ W : Nat → Int32, W = fun j => (z_sb.getD i []).getD j 0 := ⟨_, rfl⟩
  have hWj : ∀ j, (z_sb.getD i []).getD j 0 = W j := fun j => by rw [hW]
  have hwl := wL_is (f := tB σ t) (sz := sz) (p := s.1) hi
  have htw := tok_wd (f := tB σ t) (sz := sz) (p := s.1) hi
  simp only [hWj] at hwl ⊢
  have no : ps_t (tB σ t) sz s ≠ z_wcd.getD i 0 → zT X d m_X7_isWord (fun w L2 μ2 => w = some (.int (f_b (decide (ps_t (tB σ t) sz s = z_wcd.getD i 0)))) ∧ L2 = L0 ∧ μ2 = mm σ τ r) 0 0 112 [some (.ref 50), some (.int (W 0)), some (.int (W 1)), some (.int (W 2)), some (.int (W 3)), some (.int (W 4)), some (.int (W 5)), some (.int (W 6)), some (.int (W 7))] [] L0 (mm σ τ r) := by
    intro h
    rw [decide_eq_false h]
    refine zT.step ct_X7_isWord_ok ?_
    refine zT.step ct_X7_isWord_ok ?_
    exact And.intro rfl (And.intro rfl (And.intro rfl rfl))
  refine zF.of mk_X7_isWord rfl ?_
  refine zT.step ct_X7_isWord_ok ?_
  refine zT.step ct_X7_isWord_ok ?_
  refine And.intro ⟨by decide, _, rfl⟩ ?_
  refine zT.step ct_X7_isWord_ok ?_
  refine And.intro (fun h => ?_) (fun h => ?_)
  case refine_2 =>
    have h : ¬ σ 50 25 = 0 := h
    rw [h25] at h
    have h := fb1 h
    exact no (by rw [ps_tt h]; exact fun z => hn.1 z.symm)
  have h : σ 50 25 = 0 := h
  rw [h25] at h
  have h := fb0 h
  have hF := hF h
  rw [ps_tf h] at no ⊢
  refine zT.step ct_X7_isWord_ok ?_
  refine zT.step ct_X7_isWord_ok ?_
  refine And.intro ⟨by decide, _, rfl⟩ ?_
  refine zT.step ct_X7_isWord_ok ?_
  refine zT.step ct_X7_isWord_ok ?_
  refine And.intro (fun h2 => ?_) (fun h2 => ?_)
  case refine_2 =>
    have h2 : ¬ σ 50 21 = nI 1 := h2
    rw [hF.2.1] at h2
    exact no (fun z => h2 (by rw [(htw.mp z).1]))
  have h2 : σ 50 21 = nI 1 := h2
  rw [hF.2.1] at h2
  have h2 : k_tok (tB σ t) sz s.1 = 1 := by
    refine (nI_eq ?_ (by decide)).mp h2
    rcases k_tok_v (tB σ t) sz s.1 with z | z | z | z | z <;> (rw [z.1]; decide)
  have hwl := hwl h2
  have h20 := hF.2.2.1 (Or.inl h2)
  have h22 := hF.1
  have hb := lx_b_le (f := tB σ t) hs
  have he := lx_e_le (f := tB σ t) hs
  have hsz := hB.2.2.1
  have e8 : σ 50 22 + 8 = nI (lx_b (tB σ t) sz s.1 + 8) := by rw [h22]; exact nI_add _ 8
  have nox : ¬ (lx_e (tB σ t) sz s.1 ≤ lx_b (tB σ t) sz s.1 + 8 ∧ ∀ j, j < 8 → wL (tB σ t) (lx_b (tB σ t) sz s.1) (lx_e (tB σ t) sz s.1) j (W j) = true) → lx_t (tB σ t) sz s.1 ≠ z_wcd.getD i 0 := fun z y => z (hwl.mp (htw.mp y).2)
  have yes : (lx_e (tB σ t) sz s.1 ≤ lx_b (tB σ t) sz s.1 + 8 ∧ ∀ j, j < 8 → wL (tB σ t) (lx_b (tB σ t) sz s.1) (lx_e (tB σ t) sz s.1) j (W j) = true) → lx_t (tB σ t) sz s.1 = z_wcd.getD i 0 := fun z => htw.mpr ⟨h2, hwl.mpr z⟩
  have lt : ∀ (j : Nat) (x c : Int32), j < 8 → x = nI j → zF X (d - 1) m_X7_isLetter [.ref 50, .int x, .int c] L0 (mm σ τ r) (some (.int (f_b (wL (tB σ t) (lx_b (tB σ t) sz s.1) (lx_e (tB σ t) sz s.1) j c)))) (mm σ τ r) := fun j x c hj hx => t_isLetter (by omega) hB h22 h20 he.2.1 hb.2 hj hx
  generalize lx_b (tB σ t) sz s.1 = b at h22 hb he e8 nox yes lt
  generalize lx_e (tB σ t) sz s.1 = e at h20 he nox yes lt
  refine zT.step ct_X7_isWord_ok ?_
  refine zT.step ct_X7_isWord_ok ?_
  refine And.intro ⟨by decide, _, rfl⟩ ?_
  refine zT.step ct_X7_isWord_ok ?_
  refine zT.step ct_X7_isWord_ok ?_
  refine And.intro ⟨by decide, _, rfl⟩ ?_
  refine zT.step ct_X7_isWord_ok ?_
  refine zT.step ct_X7_isWord_ok ?_
  refine zT.step ct_X7_isWord_ok ?_
  refine And.intro (fun h3 => ?_) (fun h3 => ?_)
  · have h3 : σ 50 22 + 8 < σ 50 20 := h3
    rw [h20, e8] at h3
    have h3 := (nI_ltI (by omega) (by omega)).mp h3
    exact no (nox (fun z => absurd z.1 (by omega)))
  have h3 : ¬ σ 50 22 + 8 < σ 50 20 := h3
  rw [h20, e8] at h3
  have h3 : e ≤ b + 8 := by
    rcases Nat.lt_or_ge (b + 8) e with q | q
    · exact absurd (nI_lt q (by omega)) h3
    · exact q
  refine zT.step ct_X7_isWord_ok ?_
  refine zT.step ct_X7_isWord_ok ?_
  refine zT.step ct_X7_isWord_ok ?_
  refine zT.step ct_X7_isWord_ok ?_
  refine And.intro ⟨by omega, by decide, _, rfl⟩ (zF.use (lt 0 0 (W 0) (by decide) rfl) ?_)
  refine zT.step ct_X7_isWord_ok ?_
  refine And.intro (fun q0 => ?_) (fun q0 => ?_)
  · exact no (nox (fun z => by have := z.2 0 (by decide); rw [fb0 q0] at this; cases this))
  have q0 := fb1 q0
  refine zT.step ct_X7_isWord_ok ?_
  refine zT.step ct_X7_isWord_ok ?_
  refine zT.step ct_X7_isWord_ok ?_
  refine zT.step ct_X7_isWord_ok ?_
  refine And.intro ⟨by omega, by decide, _, rfl⟩ (zF.use (lt 1 1 (W 1) (by decide) rfl) ?_)
  refine zT.step ct_X7_isWord_ok ?_
  refine And.intro (fun q1 => ?_) (fun q1 => ?_)
  · exact no (nox (fun z => by have := z.2 1 (by decide); rw [fb0 q1] at this; cases this))
  have q1 := fb1 q1
  refine zT.step ct_X7_isWord_ok ?_
  refine zT.step ct_X7_isWord_ok ?_
  refine zT.step ct_X7_isWord_ok ?_
  refine zT.step ct_X7_isWord_ok ?_
  refine And.intro ⟨by omega, by decide, _, rfl⟩ (zF.use (lt 2 2 (W 2) (by decide) rfl) ?_)
  refine zT.step ct_X7_isWord_ok ?_
  refine And.intro (fun q2 => ?_) (fun q2 => ?_)
  · exact no (nox (fun z => by have := z.2 2 (by decide); rw [fb0 q2] at this; cases this))
  have q2 := fb1 q2
  refine zT.step ct_X7_isWord_ok ?_
  refine zT.step ct_X7_isWord_ok ?_
  refine zT.step ct_X7_isWord_ok ?_
  refine zT.step ct_X7_isWord_ok ?_
  refine And.intro ⟨by omega, by decide, _, rfl⟩ (zF.use (lt 3 3 (W 3) (by decide) rfl) ?_)
  refine zT.step ct_X7_isWord_ok ?_
  refine And.intro (fun q3 => ?_) (fun q3 => ?_)
  · exact no (nox (fun z => by have := z.2 3 (by decide); rw [fb0 q3] at this; cases this))
  have q3 := fb1 q3
  refine zT.step ct_X7_isWord_ok ?_
  refine zT.step ct_X7_isWord_ok ?_
  refine zT.step ct_X7_isWord_ok ?_
  refine zT.step ct_X7_isWord_ok ?_
  refine And.intro ⟨by omega, by decide, _, rfl⟩ (zF.use (lt 4 4 (W 4) (by decide) rfl) ?_)
  refine zT.step ct_X7_isWord_ok ?_
  refine And.intro (fun q4 => ?_) (fun q4 => ?_)
  · exact no (nox (fun z => by have := z.2 4 (by decide); rw [fb0 q4] at this; cases this))
  have q4 := fb1 q4
  refine zT.step ct_X7_isWord_ok ?_
  refine zT.step ct_X7_isWord_ok ?_
  refine zT.step ct_X7_isWord_ok ?_
  refine zT.step ct_X7_isWord_ok ?_
  refine And.intro ⟨by omega, by decide, _, rfl⟩ (zF.use (lt 5 5 (W 5) (by decide) rfl) ?_)
  refine zT.step ct_X7_isWord_ok ?_
  refine And.intro (fun q5 => ?_) (fun q5 => ?_)
  · exact no (nox (fun z => by have := z.2 5 (by decide); rw [fb0 q5] at this; cases this))
  have q5 := fb1 q5
  refine zT.step ct_X7_isWord_ok ?_
  refine zT.step ct_X7_isWord_ok ?_
  refine zT.step ct_X7_isWord_ok ?_
  refine zT.step ct_X7_isWord_ok ?_
  refine And.intro ⟨by omega, by decide, _, rfl⟩ (zF.use (lt 6 6 (W 6) (by decide) rfl) ?_)
  refine zT.step ct_X7_isWord_ok ?_
  refine And.intro (fun q6 => ?_) (fun q6 => ?_)
  · exact no (nox (fun z => by have := z.2 6 (by decide); rw [fb0 q6] at this; cases this))
  have q6 := fb1 q6
  refine zT.step ct_X7_isWord_ok ?_
  refine zT.step ct_X7_isWord_ok ?_
  refine zT.step ct_X7_isWord_ok ?_
  refine zT.step ct_X7_isWord_ok ?_
  refine And.intro ⟨by omega, by decide, _, rfl⟩ (zF.use (lt 7 7 (W 7) (by decide) rfl) ?_)
  refine zT.step ct_X7_isWord_ok ?_
  refine And.intro (fun q7 => ?_) (fun q7 => ?_)
  · exact no (nox (fun z => by have := z.2 7 (by decide); rw [fb0 q7] at this; cases this))
  have q7 := fb1 q7
  have y : lx_t (tB σ t) sz s.1 = z_wcd.getD i 0 := yes ⟨h3, fun j hj => by
    match j, hj with
    | 0, _ => exact q0
    | 1, _ => exact q1
    | 2, _ => exact q2
    | 3, _ => exact q3
    | 4, _ => exact q4
    | 5, _ => exact q5
    | 6, _ => exact q6
    | 7, _ => exact q7⟩
  rw [decide_eq_true y]
  refine zT.step ct_X7_isWord_ok ?_
  refine zT.step ct_X7_isWord_ok ?_
  refine zT.step ct_X7_isWord_ok ?_
  exact And.intro rfl (And.intro rfl (And.intro rfl rfl))