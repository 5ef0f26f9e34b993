/-! Rule.add, empty, endPart; Reader.fail, expect, readLevel, readOne, readBehind -/
theorem z_alen {X : zXs} {d t a N : Nat} {K : zPK} {Q : zRQ} {k n pc : Nat} {ls : zLs} {st : List Value} {L : List zSh} {μ : zMem} (hL : L[a]? = some (t, N)) (ha : a < 1000000) (h : K k n (pc + 1) ls (.int (Int32.ofNat N) :: st) L μ) : o_alen t X d K Q k n pc ls (.ref a :: st) L μ := by
  unfold o_alen
  dsimp only
  rw [hL]
  exact And.intro ⟨ha, rfl⟩ h
theorem z_f0 {τ : Nat → Nat → Int64} {r : Option Nat} {t : Nat} (ht : t < 6) (σ' : zSg) : z_fv (mm σ' τ r) (16 + 3 * t) 2 0 = .ref (17 + 3 * t) := by show z_rv (z_rho r (16 + 3 * t) 0) = _; rw [(rho_rule r ht).1]; rfl
theorem z_f1 {τ : Nat → Nat → Int64} {r : Option Nat} {t : Nat} (ht : t < 6) (σ' : zSg) : z_fv (mm σ' τ r) (16 + 3 * t) 2 1 = .ref (18 + 3 * t) := by show z_rv (z_rho r (16 + 3 * t) 1) = _; rw [(rho_rule r ht).2]; rfl
theorem s_add {X : zXs} {d t n : Nat} {σ : zSg} {τ : Nat → Nat → Int64} {r : Option Nat} {v : Int32} (ht : t < 6) (hn : σ (16 + 3 * t) 2 = nI n) (h : n < 160) : zF X d m_X2_add [.ref (16 + 3 * t), .int v] L0 (mm σ τ r) none (mm (z_up (z_up σ (17 + 3 * t) n v) (16 + 3 * t) 2 (nI (n + 1))) τ r) := by
  obtain ⟨hLr, hLs, hLe⟩ := L0_rule ht
  refine zF.of mk_X2_add rfl ?_
  refine zT.step ct_X2_add_ok ?_
  refine zT.step ct_X2_add_ok ?_
  refine And.intro hLr ?_
  refine zT.step ct_X2_add_ok ?_
  refine zT.step ct_X2_add_ok ?_
  refine And.intro hLr ?_
  rw [z_f0 ht]
  refine zT.step ct_X2_add_ok ?_
  refine z_alen (X := X) (d := d) (Q := fun _ _ _ => True) hLs (by omega) ?_
  refine zT.step ct_X2_add_ok ?_
  refine And.intro (fun q => ?_) (fun _ => ?_)
  · have q : nI 160 ≤ σ (16 + 3 * t) 2 := q
    rw [hn] at q
    exact absurd q (nI_ge h (by decide))
  refine zT.step ct_X2_add_ok ?_
  refine zT.step ct_X2_add_ok ?_
  refine And.intro hLr ?_
  rw [z_f0 ht]
  refine zT.step ct_X2_add_ok ?_
  refine zT.step ct_X2_add_ok ?_
  refine And.intro hLr ?_
  refine zT.step ct_X2_add_ok ?_
  refine zT.step ct_X2_add_ok ?_
  refine Exists.intro n (And.intro ⟨hn, by omega, 160, hLs, h, by decide⟩ ?_)
  refine zT.step ct_X2_add_ok ?_
  refine zT.step ct_X2_add_ok ?_
  refine zT.step ct_X2_add_ok ?_
  refine And.intro hLr ?_
  refine zT.step ct_X2_add_ok ?_
  refine zT.step ct_X2_add_ok ?_
  refine zT.step ct_X2_add_ok ?_
  refine And.intro hLr ?_
  refine zT.step ct_X2_add_ok ?_
  refine And.intro rfl (And.intro rfl ?_)
  show mm (z_up (z_up σ (17 + 3 * t) n v) (16 + 3 * t) 2 (z_up σ (17 + 3 * t) n v (16 + 3 * t) 2 + 1)) τ r = _
  rw [zu_n _ _ _ _ _ (by omega), hn, nI_1]
theorem s_empty {X : zXs} {d t : Nat} {σ : zSg} {τ : Nat → Nat → Int64} {r : Option Nat} (ht : t < 6) : zF X d m_X2_empty [.ref (16 + 3 * t)] L0 (mm σ τ r) none (mm (z_up (z_up σ (16 + 3 * t) 2 0) (16 + 3 * t) 3 0) τ r) := by
  obtain ⟨hLr, hLs, hLe⟩ := L0_rule ht
  refine zF.of mk_X2_empty rfl ?_
  refine zT.step ct_X2_empty_ok ?_
  refine zT.step ct_X2_empty_ok ?_
  refine zT.step ct_X2_empty_ok ?_
  refine And.intro hLr ?_
  refine zT.step ct_X2_empty_ok ?_
  refine zT.step ct_X2_empty_ok ?_
  refine zT.step ct_X2_empty_ok ?_
  refine And.intro hLr ?_
  refine zT.step ct_X2_empty_ok ?_
  exact And.intro rfl (And.intro rfl rfl)
theorem s_endPart {X : zXs} {d t q n : Nat} {σ : zSg} {τ : Nat → Nat → Int64} {r : Option Nat} (ht : t < 6) (hq : σ (16 + 3 * t) 3 = nI q) (hn : σ (16 + 3 * t) 2 = nI n) (h : q < 3) : zF X d m_X2_endPart [.ref (16 + 3 * t)] L0 (mm σ τ r) none (mm (z_up (z_up σ (18 + 3 * t) q (nI n)) (16 + 3 * t) 3 (nI (q + 1))) τ r) := by
  obtain ⟨hLr, hLs, hLe⟩ := L0_rule ht
  refine zF.of mk_X2_endPart rfl ?_
  refine zT.step ct_X2_endPart_ok ?_
  refine zT.step ct_X2_endPart_ok ?_
  refine And.intro hLr ?_
  refine zT.step ct_X2_endPart_ok ?_
  refine zT.step ct_X2_endPart_ok ?_
  refine And.intro hLr ?_
  rw [z_f1 ht]
  refine zT.step ct_X2_endPart_ok ?_
  refine z_alen (X := X) (d := d) (Q := fun _ _ _ => True) hLe (by omega) ?_
  refine zT.step ct_X2_endPart_ok ?_
  refine And.intro (fun z => ?_) (fun _ => ?_)
  · have z : nI 3 ≤ σ (16 + 3 * t) 3 := z
    rw [hq] at z
    exact absurd z (nI_ge h (by decide))
  refine zT.step ct_X2_endPart_ok ?_
  refine zT.step ct_X2_endPart_ok ?_
  refine And.intro hLr ?_
  rw [z_f1 ht]
  refine zT.step ct_X2_endPart_ok ?_
  refine zT.step ct_X2_endPart_ok ?_
  refine And.intro hLr ?_
  refine zT.step ct_X2_endPart_ok ?_
  refine zT.step ct_X2_endPart_ok ?_
  refine And.intro hLr ?_
  refine zT.step ct_X2_endPart_ok ?_
  refine Exists.intro q (And.intro ⟨hq, by omega, 3, hLe, h, by decide⟩ ?_)
  refine zT.step ct_X2_endPart_ok ?_
  refine zT.step ct_X2_endPart_ok ?_
  refine zT.step ct_X2_endPart_ok ?_
  refine And.intro hLr ?_
  refine zT.step ct_X2_endPart_ok ?_
  refine zT.step ct_X2_endPart_ok ?_
  refine zT.step ct_X2_endPart_ok ?_
  refine And.intro hLr ?_
  refine zT.step ct_X2_endPart_ok ?_
  refine And.intro rfl (And.intro rfl ?_)
  show mm (z_up (z_up σ (18 + 3 * t) q (σ (16 + 3 * t) 2)) (16 + 3 * t) 3 (z_up σ (18 + 3 * t) q (σ (16 + 3 * t) 2) (16 + 3 * t) 3 + 1)) τ r = _
  rw [zu_n _ _ _ _ _ (by omega), hq, hn, nI_1]
/-- the memory while a text is read: s the state, c the steps so far -/
def rm (σ : zSg) (t sz : Nat) (s : PS) (c : List Int32) : zSg := fun a k =>
  if a = 34 then (if k = 2 then nI (lx_e (σ 35) sz s.1) else if k = 3 then nI (lx_b (σ 35) sz s.1) else if k = 4 then ps_t (σ 35) sz s else if k = 5 then (bif s.2 then nI (lx_b (σ 35) sz s.1) else -1) else σ 34 k)
  else if a = 16 + 3 * t then (if k = 2 then nI c.length else σ a k)
  else if a = 17 + 3 * t then (if k < c.length then c.getD k 0 else σ a k)
  else σ a k
theorem rm_o (σ : zSg) (t sz : Nat) (s : PS) (c : List Int32) (a : Nat) (h1 : a ≠ 34) (h2 : a ≠ 16 + 3 * t) (h3 : a ≠ 17 + 3 * t) : rm σ t sz s c a = σ a := by
  funext k
  unfold rm
  rw [if_neg h1, if_neg h2, if_neg h3]
theorem rm_34 (σ : zSg) (t sz : Nat) (s : PS) (c : List Int32) : rm σ t sz s c 34 0 = σ 34 0 ∧ rm σ t sz s c 34 2 = nI (lx_e (σ 35) sz s.1) ∧ rm σ t sz s c 34 3 = nI (lx_b (σ 35) sz s.1) ∧ rm σ t sz s c 34 4 = ps_t (σ 35) sz s ∧ rm σ t sz s c 34 5 = (bif s.2 then nI (lx_b (σ 35) sz s.1) else -1) := ⟨rfl, rfl, rfl, rfl, rfl⟩
theorem rm_sz (σ : zSg) (t sz : Nat) (s : PS) (c : List Int32) (ht : t < 6) : rm σ t sz s c (16 + 3 * t) 2 = nI c.length := by
  unfold rm
  rw [if_neg (by omega), if_pos rfl, if_pos rfl]
theorem rm_adv (σ : zSg) (t sz : Nat) (s : PS) (c : List Int32) (hs : s.2 = false) : rk (rm σ t sz s c) (lx_e (σ 35) sz (lx_e (σ 35) sz s.1)) (lx_b (σ 35) sz (lx_e (σ 35) sz s.1)) (lx_t (σ 35) sz (lx_e (σ 35) sz s.1)) = rm σ t sz (ps_a (σ 35) sz s) c := by
  funext a k
  unfold rk rm ps_a ps_t
  rw [hs]
  by_cases h : a = 34
  · subst h
    by_cases h2 : k = 2
    · simp [h2]
    · by_cases h3 : k = 3
      · simp [h3]
      · by_cases h4 : k = 4
        · simp [h4]
        · by_cases h5 : k = 5 <;> simp [h2, h3, h4, h5]
  · simp [h]
theorem rm_fg (σ : zSg) (t sz : Nat) (s : PS) (c : List Int32) : z_up (z_up (rm σ t sz s c) 34 5 (nI (lx_b (σ 35) sz s.1))) 34 4 (-31) = rm σ t sz (ps_f s) c := by
  funext a k
  unfold z_up rm ps_f ps_t
  by_cases h : a = 34
  · subst h
    by_cases h2 : k = 2
    · simp [h2]
    · by_cases h3 : k = 3
      · simp [h3]
      · by_cases h4 : k = 4
        · simp [h4]
        · by_cases h5 : k = 5 <;> simp [h2, h3, h4, h5]
  · simp [h]
theorem rm_fb (σ : zSg) (t sz : Nat) (s : PS) (c : List Int32) (hs : s.2 = true) : z_up (rm σ t sz s c) 34 4 (-31) = rm σ t sz (ps_f s) c := by
  funext a k
  unfold z_up rm ps_f ps_t
  rw [hs]
  by_cases h : a = 34
  · subst h
    by_cases h2 : k = 2
    · simp [h2]
    · by_cases h3 : k = 3
      · simp [h3]
      · by_cases h4 : k = 4
        · simp [h4]
        · by_cases h5 : k = 5 <;> simp [h2, h3, h4, h5]
  · simp [h]
theorem getD_app (c : List Int32) (v : Int32) (k : Nat) : (if k < (c ++ [v]).length then (c ++ [v]).getD k 0 else 0) = if k < c.length then c.getD k 0 else if k = c.length then v else 0 := by
  rw [List.length_append, List.getD_eq_getElem?_getD, List.getD_eq_getElem?_getD]
  show (if k < c.length + 1 then _ else _) = _
  by_cases h1 : k < c.length
  · rw [if_pos h1, if_pos (by omega), List.getElem?_append_left h1]
  · rw [if_neg h1]
    by_cases h2 : k = c.length
    · rw [if_pos h2, if_pos (by omega), h2, List.getElem?_append_right (Nat.le_refl _), Nat.sub_self]
      rfl
    · rw [if_neg h2, if_neg (by omega)]
theorem rm_add (σ : zSg) (t sz : Nat) (s : PS) (c : List Int32) (v : Int32) (ht : t < 6) : z_up (z_up (rm σ t sz s c) (17 + 3 * t) c.length v) (16 + 3 * t) 2 (nI (c.length + 1)) = rm σ t sz s (c ++ [v]) := by
  funext a k
  have hl : (c ++ [v]).length = c.length + 1 := by rw [List.length_append]; rfl
  unfold z_up rm
  rw [hl]
  by_cases h : a = 34
  · subst h
    rw [if_neg (by omega), if_neg (by omega), if_pos rfl, if_pos rfl]
  by_cases h1 : a = 16 + 3 * t
  · subst h1
    by_cases h2 : k = 2
    · simp [h2, h]
    · simp [h2, h]
  by_cases h2 : a = 17 + 3 * t
  · subst h2
    simp only [h, h1, false_and, if_false, true_and, if_true]
    by_cases h3 : k < c.length
    · rw [if_neg (by omega), if_pos h3, if_pos (by omega), List.getD_eq_getElem?_getD, List.getD_eq_getElem?_getD, List.getElem?_append_left h3]
    · by_cases h4 : k = c.length
      · rw [if_pos h4, if_pos (by omega), h4, List.getD_eq_getElem?_getD, List.getElem?_append_right (Nat.le_refl _), Nat.sub_self]
        rfl
      · rw [if_neg h4, if_neg h3, if_neg (by omega)]
  · simp [h, h1, h2]
theorem s_fail {X : zXs} {d t sz : Nat} {σ : zSg} {τ : Nat → Nat → Int64} {r : Option Nat} {s : PS} {c : List Int32} (hsz : sz ≤ 160) (hs : s.1 ≤ sz) : zF X d m_X1_fail [.ref 34] L0 (mm (rm σ t sz s c) τ r) none (mm (rm σ t sz (ps_f s) c) τ r) := by
  have hb := lx_b_le (f := σ 35) hs
  refine zF.of mk_X1_fail rfl ?_
  repeat first | refine zT.step ct_X1_fail_ok ?_ | refine And.intro ⟨by decide, _, rfl⟩ ?_ | refine And.intro ⟨by decide, rfl⟩ ?_
  refine And.intro (fun h => ?_) (fun h => ?_)
  · have h : (bif s.2 then nI (lx_b (σ 35) sz s.1) else -1) = -1 := h
    repeat first | refine zT.step ct_X1_fail_ok ?_ | refine And.intro ⟨by decide, _, rfl⟩ ?_ | refine And.intro ⟨by decide, rfl⟩ ?_
    refine And.intro rfl (And.intro rfl ?_)
    exact congrArg (fun x => mm x τ r) (rm_fg σ t sz s c)
  · have h : ¬ (bif s.2 then nI (lx_b (σ 35) sz s.1) else -1) = -1 := h
    have h2 : s.2 = true := by
      cases e : s.2 with
      | true => rfl
      | false => rw [e] at h; exact absurd rfl h
    repeat first | refine zT.step ct_X1_fail_ok ?_ | refine And.intro ⟨by decide, _, rfl⟩ ?_ | refine And.intro ⟨by decide, rfl⟩ ?_
    refine And.intro rfl (And.intro rfl ?_)
    exact congrArg (fun x => mm x τ r) (rm_fb σ t sz s c h2)
theorem s_adv {X : zXs} {d t sz : Nat} {σ : zSg} {τ : Nat → Nat → Int64} {r : Option Nat} {s : PS} {c : List Int32} (ht : t < 6) (hd : 6 ≤ d) (h0 : σ 34 0 = nI sz) (hsz : sz ≤ 160) (hs : s.1 ≤ sz) (h2 : s.2 = false) : zF X d m_X1_advance [.ref 34] L0 (mm (rm σ t sz s c) τ r) none (mm (rm σ t sz (ps_a (σ 35) sz s) c) τ r) := by
  have he := lx_e_le (f := σ 35) hs
  have := s_advance (X := X) (d := d) (τ := τ) (r := r) (σ := rm σ t sz s c) (p := lx_e (σ 35) sz s.1) hd h0 hsz rfl he.2.1
  rw [rm_o _ _ _ _ _ _ (by omega) (by omega) (by omega), rm_adv _ _ _ _ _ h2] at this
  exact this
theorem s_expect {X : zXs} {d t sz : Nat} {σ : zSg} {τ : Nat → Nat → Int64} {r : Option Nat} {s : PS} {c : List Int32} {due : Int32} (ht : t < 6) (hd : 7 ≤ d) (h0 : σ 34 0 = nI sz) (hsz : sz ≤ 160) (hs : s.1 ≤ sz) (hdue : due ≠ -31) : zF X d m_X1_expect [.ref 34, .int due] L0 (mm (rm σ t sz s c) τ r) none (mm (rm σ t sz (ps_x (σ 35) sz due s) c) τ r) := by
  refine zF.of mk_X1_expect rfl ?_
  repeat first | refine zT.step ct_X1_expect_ok ?_ | refine And.intro ⟨by decide, _, rfl⟩ ?_ | refine And.intro ⟨by decide, rfl⟩ ?_
  refine And.intro (fun h => ?_) (fun h => ?_)
  · have h : ps_t (σ 35) sz s = due := h
    have h2 : s.2 = false := by
      cases e : s.2 with
      | false => rfl
      | true => unfold ps_t at h; rw [e] at h; exact absurd h.symm hdue
    repeat first | refine zT.step ct_X1_expect_ok ?_ | refine And.intro ⟨by decide, _, rfl⟩ ?_ | refine And.intro ⟨by decide, rfl⟩ ?_
    refine And.intro ⟨by omega, by decide, _, rfl⟩ (zF.use (s_adv ht (by omega) h0 hsz hs h2) ?_)
    repeat first | refine zT.step ct_X1_expect_ok ?_ | refine And.intro ⟨by decide, _, rfl⟩ ?_ | refine And.intro ⟨by decide, rfl⟩ ?_
    exact And.intro rfl (And.intro rfl (by unfold ps_x; rw [if_pos h]))
  · have h : ¬ ps_t (σ 35) sz s = due := h
    repeat first | refine zT.step ct_X1_expect_ok ?_ | refine And.intro ⟨by decide, _, rfl⟩ ?_ | refine And.intro ⟨by decide, rfl⟩ ?_
    refine And.intro ⟨by omega, by decide, _, rfl⟩ (zF.use (s_fail hsz hs) ?_)
    repeat first | refine zT.step ct_X1_expect_ok ?_ | refine And.intro ⟨by decide, _, rfl⟩ ?_ | refine And.intro ⟨by decide, rfl⟩ ?_
    exact And.intro rfl (And.intro rfl (by unfold ps_x; rw [if_neg h]))
theorem s_addP {X : zXs} {d t sz : Nat} {σ : zSg} {τ : Nat → Nat → Int64} {r : Option Nat} {s : PS} {c : List Int32} {v : Int32} (ht : t < 6) (hc : c.length < 160) : zF X d m_X2_add [.ref (16 + 3 * t), .int v] L0 (mm (rm σ t sz s c) τ r) none (mm (rm σ t sz s (c ++ [v])) τ r) := by
  have := s_add (X := X) (d := d) (τ := τ) (r := r) (v := v) (σ := rm σ t sz s c) ht (rm_sz _ _ _ _ _ ht) hc
  rw [rm_add _ _ _ _ _ _ ht] at this
  exact this
/-- readLevel(l, 5 - k) reads as g does -/
def SLv (X : zXs) (σ : zSg) (τ : Nat → Nat → Int64) (t sz k l : Nat) (g : PT) : Prop := ∀ (d : Nat) (s : PS) (c : List Int32), 7 * k + (5 - l) + 9 ≤ d → s.1 ≤ sz → c.length ≤ s.1 → zF X d m_X1_readLevel [.ref 34, .int (nI l), .int (nI (5 - k))] L0 (mm (rm σ t sz s c) τ (some (16 + 3 * t))) none (mm (rm σ t sz (g s).1 (c ++ (g s).2)) τ (some (16 + 3 * t)))
theorem s_readBehind {X : zXs} {d t sz k l : Nat} {σ : zSg} {τ : Nat → Nat → Int64} {st : Int32} {s : PS} {c : List Int32} {D : Option (Nat → PT)} (ht : t < 6) (h0 : σ 34 0 = nI sz) (hsz : sz ≤ 160) (hd : 7 * k + 6 ≤ d) (hd2 : 7 ≤ d) (hk5 : k ≤ 5) (hl : 2 ≤ l) (hl5 : l ≤ 5) (hDk : (D = none ∧ k = 0) ∨ ∃ g k', D = some g ∧ k = k' + 1 ∧ SLv X σ τ t sz k' l (g l) ∧ PK sz (g l)) (hs : s.1 ≤ sz) (hc : c.length ≤ s.1) (h1 : ps_t (σ 35) sz s ≠ -31) (h2 : ps_t (σ 35) sz s ≠ -30) :
    zF X d m_X1_readBehind [.ref 34, .int st, .int (nI l), .int (nI (5 - k))] L0 (mm (rm σ t sz s c) τ (some (16 + 3 * t))) none (mm (rm σ t sz (pr_beh (σ 35) sz D st l s).1 (c ++ (pr_beh (σ 35) sz D st l s).2)) τ (some (16 + 3 * t))) := by
  obtain ⟨hLr, hLs, hLe⟩ := L0_rule ht
  have ha := ps_a_le hs h1 h2
  rcases hDk with ⟨rfl, rfl⟩ | ⟨g, k', rfl, rfl, hS, hP⟩
  · refine zF.of mk_X1_readBehind rfl ?_
    repeat first | refine zT.step ct_X1_readBehind_ok ?_ | refine And.intro ⟨by decide, _, rfl⟩ ?_ | refine And.intro ⟨by decide, rfl⟩ ?_
    refine And.intro (fun h => absurd h (by decide)) (fun _ => ?_)
    repeat first | refine zT.step ct_X1_readBehind_ok ?_ | refine And.intro ⟨by decide, _, rfl⟩ ?_ | refine And.intro ⟨by decide, rfl⟩ ?_
    refine And.intro ⟨by omega, by decide, _, rfl⟩ (zF.use (s_fail hsz hs) ?_)
    repeat first | refine zT.step ct_X1_readBehind_ok ?_ | refine And.intro ⟨by decide, _, rfl⟩ ?_ | refine And.intro ⟨by decide, rfl⟩ ?_
    exact And.intro rfl (And.intro rfl (by show _ = mm (rm σ t sz (ps_f s) (c ++ [])) τ _; rw [List.append_nil]))
  · have hg := hP (ps_a (σ 35) sz s) ha.2.1
    refine zF.of mk_X1_readBehind rfl ?_
    repeat first | refine zT.step ct_X1_readBehind_ok ?_ | refine And.intro ⟨by decide, _, rfl⟩ ?_ | refine And.intro ⟨by decide, rfl⟩ ?_
    refine And.intro (fun _ => ?_) (fun h => absurd (nI_lt (show 5 - (k' + 1) < 5 by omega) (by decide)) h)
    repeat first | refine zT.step ct_X1_readBehind_ok ?_ | refine And.intro ⟨by decide, _, rfl⟩ ?_ | refine And.intro ⟨by decide, rfl⟩ ?_
    refine And.intro ⟨by omega, by decide, _, rfl⟩ (zF.use (s_adv ht (by omega) h0 hsz hs ha.2.2) ?_)
    refine zT.step ct_X1_readBehind_ok ?_
    refine zT.step ct_X1_readBehind_ok ?_
    refine zT.step ct_X1_readBehind_ok ?_
    refine zT.step ct_X1_readBehind_ok ?_
    refine zT.step ct_X1_readBehind_ok ?_
    show zT X d m_X1_readBehind _ 0 0 19 _ [.int (nI (5 - (k' + 1)) + 1), .int (nI l), .ref 34] _ _
    rw [nI_1, show 5 - (k' + 1) + 1 = 5 - k' by omega]
    refine zT.step ct_X1_readBehind_ok ?_
    refine And.intro ⟨by omega, by decide, _, rfl⟩ (zF.use (hS (d - 1) _ c (by omega) ha.2.1 (by omega)) ?_)
    repeat first | refine zT.step ct_X1_readBehind_ok ?_ | refine And.intro ⟨by decide, _, rfl⟩ ?_ | refine And.intro ⟨by decide, rfl⟩ ?_
    refine And.intro ⟨by omega, hLr⟩ (zF.use (s_addP ht (by rw [List.length_append]; omega)) ?_)
    repeat first | refine zT.step ct_X1_readBehind_ok ?_ | refine And.intro ⟨by decide, _, rfl⟩ ?_ | refine And.intro ⟨by decide, rfl⟩ ?_
    refine And.intro rfl (And.intro rfl ?_)
    rw [List.append_assoc]
    rfl
theorem s_readOne {X : zXs} {d t sz k : Nat} {σ : zSg} {τ : Nat → Nat → Int64} {s : PS} {c : List Int32} {D : Option (Nat → PT)} (ht : t < 6) (h0 : σ 34 0 = nI sz) (hsz : sz ≤ 160) (hd : 7 * k + 8 ≤ d) (hk5 : k ≤ 5) (hDk : (D = none ∧ k = 0) ∨ ∃ g k', D = some g ∧ k = k' + 1 ∧ (∀ l, l ≤ 5 → SLv X σ τ t sz k' l (g l)) ∧ ∀ l, PK sz (g l)) (hs : s.1 ≤ sz) (hc : c.length ≤ s.1) :
    zF X d m_X1_readOne [.ref 34, .int (nI (5 - k))] L0 (mm (rm σ t sz s c) τ (some (16 + 3 * t))) none (mm (rm σ t sz (pr_one (σ 35) sz D s).1 (c ++ (pr_one (σ 35) sz D s).2)) τ (some (16 + 3 * t))) := by
  obtain ⟨hLr, hLs, hLe⟩ := L0_rule ht
  have dist : ∀ l, 2 ≤ l → l ≤ 5 → (D = none ∧ k = 0) ∨ ∃ g k', D = some g ∧ k = k' + 1 ∧ SLv X σ τ t sz k' l (g l) ∧ PK sz (g l) := by
    intro l hl hl5
    rcases hDk with q | ⟨g, k', e1, e2, hS, hP⟩
    · exact Or.inl q
    · exact Or.inr ⟨g, k', e1, e2, hS l hl5, hP l⟩
  refine zF.of mk_X1_readOne rfl ?_
  repeat first | refine zT.step ct_X1_readOne_ok ?_ | refine And.intro ⟨by decide, _, rfl⟩ ?_ | refine And.intro ⟨by decide, rfl⟩ ?_
  refine And.intro (fun h => ?_) (fun h => ?_)
  · have h : ps_t (σ 35) sz s < -6 := h
    repeat first | refine zT.step ct_X1_readOne_ok ?_ | refine And.intro ⟨by decide, _, rfl⟩ ?_ | refine And.intro ⟨by decide, rfl⟩ ?_
    refine And.intro (fun h1 => ?_) (fun h1 => ?_)
    · have h1 : ps_t (σ 35) sz s = -16 := h1
      repeat first | refine zT.step ct_X1_readOne_ok ?_ | refine And.intro ⟨by decide, _, rfl⟩ ?_ | refine And.intro ⟨by decide, rfl⟩ ?_
      refine And.intro ⟨by omega, by decide, _, rfl⟩ (zF.use (s_readBehind (D := D) (st := -19) (l := 5) ht h0 hsz (by omega) (by omega) hk5 (by decide) (by decide) (dist 5 (by decide) (by decide)) hs hc (by rw [h1]; decide) (by rw [h1]; decide)) ?_)
      repeat first | refine zT.step ct_X1_readOne_ok ?_ | refine And.intro ⟨by decide, _, rfl⟩ ?_ | refine And.intro ⟨by decide, rfl⟩ ?_
      exact And.intro rfl (And.intro rfl (by unfold pr_one; rw [if_pos h, if_pos h1]))
    · have h1 : ¬ ps_t (σ 35) sz s = -16 := h1
      repeat first | refine zT.step ct_X1_readOne_ok ?_ | refine And.intro ⟨by decide, _, rfl⟩ ?_ | refine And.intro ⟨by decide, rfl⟩ ?_
      have fin : (pr_one (σ 35) sz D s) = (ps_f s, []) → zT X d m_X1_readOne (fun w L2 μ2 => w = none ∧ L2 = L0 ∧ μ2 = mm (rm σ t sz (pr_one (σ 35) sz D s).1 (c ++ (pr_one (σ 35) sz D s).2)) τ (some (16 + 3 * t))) 0 0 82 [some (.ref 34), some (.int (nI (5 - k)))] [] L0 (mm (rm σ t sz s c) τ (some (16 + 3 * t))) := by
        intro e
        rw [e]
        repeat first | refine zT.step ct_X1_readOne_ok ?_ | refine And.intro ⟨by decide, _, rfl⟩ ?_ | refine And.intro ⟨by decide, rfl⟩ ?_
        refine And.intro ⟨by omega, by decide, _, rfl⟩ (zF.use (s_fail hsz hs) ?_)
        repeat first | refine zT.step ct_X1_readOne_ok ?_ | refine And.intro ⟨by decide, _, rfl⟩ ?_ | refine And.intro ⟨by decide, rfl⟩ ?_
        exact And.intro rfl (And.intro rfl (by show _ = mm (rm σ t sz (ps_f s) (c ++ [])) τ _; rw [List.append_nil]))
      refine And.intro (fun h2 => ?_) (fun h2 => ?_)
      · have h2 : ps_t (σ 35) sz s = -20 := h2
        have ha := ps_a_le hs (show ps_t (σ 35) sz s ≠ -31 by rw [h2]; decide) (by rw [h2]; decide)
        repeat first | refine zT.step ct_X1_readOne_ok ?_ | refine And.intro ⟨by decide, _, rfl⟩ ?_ | refine And.intro ⟨by decide, rfl⟩ ?_
        rcases hDk with ⟨rfl, rfl⟩ | ⟨g, k', rfl, rfl, hS, hP⟩
        · refine And.intro (fun _ => ?_) (fun h => absurd (by decide) h)
          exact fin (by unfold pr_one; rw [if_pos h, if_neg h1])
        · have hg := hP 0 (ps_a (σ 35) sz s) ha.2.1
          refine And.intro (fun h => absurd h (nI_ge (show 5 - (k' + 1) < 5 by omega) (by decide))) (fun _ => ?_)
          repeat first | refine zT.step ct_X1_readOne_ok ?_ | refine And.intro ⟨by decide, _, rfl⟩ ?_ | refine And.intro ⟨by decide, rfl⟩ ?_
          refine And.intro ⟨by omega, by decide, _, rfl⟩ (zF.use (s_adv ht (by omega) h0 hsz hs ha.2.2) ?_)
          refine zT.step ct_X1_readOne_ok ?_
          refine zT.step ct_X1_readOne_ok ?_
          refine zT.step ct_X1_readOne_ok ?_
          refine zT.step ct_X1_readOne_ok ?_
          refine zT.step ct_X1_readOne_ok ?_
          show zT X d m_X1_readOne _ 0 0 70 _ [.int (nI (5 - (k' + 1)) + 1), .int (nI 0), .ref 34] _ _
          rw [nI_1, show 5 - (k' + 1) + 1 = 5 - k' by omega]
          refine zT.step ct_X1_readOne_ok ?_
          refine And.intro ⟨by omega, by decide, _, rfl⟩ (zF.use (hS 0 (by decide) (d - 1) _ c (by omega) ha.2.1 (by omega)) ?_)
          repeat first | refine zT.step ct_X1_readOne_ok ?_ | refine And.intro ⟨by decide, _, rfl⟩ ?_ | refine And.intro ⟨by decide, rfl⟩ ?_
          refine And.intro ⟨by omega, by decide, _, rfl⟩ (zF.use (s_expect ht (by omega) h0 hsz hg.2 (by decide)) ?_)
          repeat first | refine zT.step ct_X1_readOne_ok ?_ | refine And.intro ⟨by decide, _, rfl⟩ ?_ | refine And.intro ⟨by decide, rfl⟩ ?_
          refine And.intro rfl (And.intro rfl ?_)
          unfold pr_one
          rw [if_pos h, if_neg h1]
          dsimp only
          rw [if_pos h2]
      · have h2 : ¬ ps_t (σ 35) sz s = -20 := h2
        refine fin ?_
        unfold pr_one
        rw [if_pos h, if_neg h1]
        cases D with
        | none => rfl
        | some g => dsimp only; rw [if_neg h2]
  · have h : ¬ ps_t (σ 35) sz s < -6 := h
    have ha := ps_a_le hs (fun q => h (by rw [q]; decide)) (fun q => h (by rw [q]; decide))
    have hb := lx_e_le (f := σ 35) hs
    repeat first | refine zT.step ct_X1_readOne_ok ?_ | refine And.intro ⟨by decide, _, rfl⟩ ?_ | refine And.intro ⟨by decide, rfl⟩ ?_
    refine And.intro ⟨by omega, hLr⟩ (zF.use (s_addP ht (by omega)) ?_)
    repeat first | refine zT.step ct_X1_readOne_ok ?_ | refine And.intro ⟨by decide, _, rfl⟩ ?_ | refine And.intro ⟨by decide, rfl⟩ ?_
    refine And.intro ⟨by omega, by decide, _, rfl⟩ (zF.use (s_adv ht (by omega) h0 hsz hs ha.2.2) ?_)
    repeat first | refine zT.step ct_X1_readOne_ok ?_ | refine And.intro ⟨by decide, _, rfl⟩ ?_ | refine And.intro ⟨by decide, rfl⟩ ?_
    exact And.intro rfl (And.intro rfl (by unfold pr_one; rw [if_neg h]; rfl))
theorem s_rlv {X : zXs} {t sz k l most : Nat} {σ : zSg} {τ : Nat → Nat → Int64} {sub : PT} (ht : t < 6) (h0 : σ 34 0 = nI sz) (hsz : sz ≤ 160) (hk5 : k ≤ 5) (hl : l < 5) (hm : (l = 2 ∧ most = 1) ∨ (l ≠ 2 ∧ most = 160)) (hS : SLv X σ τ t sz k (l + 1) sub) (hP : PK sz sub) (d : Nat) (s : PS) (c : List Int32) (hd : 7 * k + (5 - l) + 9 ≤ d) (hs : s.1 ≤ sz) (hc : c.length ≤ s.1) (hn : l = 2 → ¬ ps_t (σ 35) sz s = -18) :
    zF X d m_X1_readLevel [.ref 34, .int (nI l), .int (nI (5 - k))] L0 (mm (rm σ t sz s c) τ (some (16 + 3 * t))) none (mm (rm σ t sz (pr_lv (σ 35) sz most (nI l) sub s).1 (c ++ (pr_lv (σ 35) sz most (nI l) sub s).2)) τ (some (16 + 3 * t))) := by
  obtain ⟨hLr, hLs, hLe⟩ := L0_rule ht
  have hm160 : most ≤ 160 := by omega
  have lp : ∀ (m n : Nat) (s : PS) (c : List Int32), n + m = most → s.1 ≤ sz → c.length ≤ s.1 → zT X d m_X1_readLevel (fun w L2 μ2 => w = none ∧ L2 = L0 ∧ μ2 = mm (rm σ t sz (pr_lp (σ 35) sz (nI l) sub m s).1 (c ++ (pr_lp (σ 35) sz (nI l) sub m s).2)) τ (some (16 + 3 * t))) 0 0 58 [some (.ref 34), some (.int (nI l)), some (.int (nI (5 - k))), some (.int (nI most)), some (.int (nI n)), none] [] L0 (mm (rm σ t sz s c) τ (some (16 + 3 * t))) := by
    intro m
    induction m with
    | zero =>
      intro n s c hn hs hc
      repeat first | refine zT.step ct_X1_readLevel_ok ?_ | refine And.intro ⟨by decide, _, rfl⟩ ?_ | refine And.intro ⟨by decide, rfl⟩ ?_
      refine And.intro (fun h => ?_) (fun h => absurd (nI_le (show most ≤ n by omega) (by omega)) h)
      repeat first | refine zT.step ct_X1_readLevel_ok ?_ | refine And.intro ⟨by decide, _, rfl⟩ ?_ | refine And.intro ⟨by decide, rfl⟩ ?_
      exact And.intro rfl (And.intro rfl (by show _ = mm (rm σ t sz s (c ++ [])) τ _; rw [List.append_nil]))
    | succ m ih =>
      intro n s c hn hs hc
      repeat first | refine zT.step ct_X1_readLevel_ok ?_ | refine And.intro ⟨by decide, _, rfl⟩ ?_ | refine And.intro ⟨by decide, rfl⟩ ?_
      refine And.intro (fun h => absurd h (nI_ge (show n < most by omega) (by omega))) (fun _ => ?_)
      repeat first | refine zT.step ct_X1_readLevel_ok ?_ | refine And.intro ⟨by decide, _, rfl⟩ ?_ | refine And.intro ⟨by decide, rfl⟩ ?_
      refine And.intro (by omega) (zF.use s_levelOf ?_)
      repeat first | refine zT.step ct_X1_readLevel_ok ?_ | refine And.intro ⟨by decide, _, rfl⟩ ?_ | refine And.intro ⟨by decide, rfl⟩ ?_
      refine And.intro (fun h => ?_) (fun h => ?_)
      · have h : pr_lev (ps_t (σ 35) sz s) = nI l := h
        have ht2 := pr_lev_t h (nI_pos' (by omega))
        have ha := ps_a_le hs ht2.1 ht2.2
        have hg := hP (ps_a (σ 35) sz s) ha.2.1
        repeat first | refine zT.step ct_X1_readLevel_ok ?_ | refine And.intro ⟨by decide, _, rfl⟩ ?_ | refine And.intro ⟨by decide, rfl⟩ ?_
        refine And.intro ⟨by omega, by decide, _, rfl⟩ (zF.use (s_adv ht (by omega) h0 hsz hs ha.2.2) ?_)
        refine zT.step ct_X1_readLevel_ok ?_
        refine zT.step ct_X1_readLevel_ok ?_
        refine zT.step ct_X1_readLevel_ok ?_
        refine zT.step ct_X1_readLevel_ok ?_
        show zT X d m_X1_readLevel _ 0 0 89 _ [.int (nI l + 1), .ref 34] _ _
        rw [nI_1]
        refine zT.step ct_X1_readLevel_ok ?_
        refine zT.step ct_X1_readLevel_ok ?_
        refine And.intro ⟨by omega, by decide, _, rfl⟩ (zF.use (hS (d - 1) _ c (by omega) ha.2.1 (by omega)) ?_)
        repeat first | refine zT.step ct_X1_readLevel_ok ?_ | refine And.intro ⟨by decide, _, rfl⟩ ?_ | refine And.intro ⟨by decide, rfl⟩ ?_
        refine And.intro ⟨by omega, hLr⟩ (zF.use (s_addP ht (by rw [List.length_append]; omega)) ?_)
        refine zT.step ct_X1_readLevel_ok ?_
        refine zT.step ct_X1_readLevel_ok ?_
        refine zT.drop 5 ?_
        show zT X d m_X1_readLevel _ 0 0 58 [some (.ref 34), some (.int (nI l)), some (.int (nI (5 - k))), some (.int (nI most)), some (.int (nI n + 1)), none] [] L0 _
        rw [nI_1]
        have := ih (n + 1) (sub (ps_a (σ 35) sz s)).1 (c ++ (sub (ps_a (σ 35) sz s)).2 ++ [ps_t (σ 35) sz s]) (by omega) hg.2 (by rw [List.length_append, List.length_append]; show c.length + (sub (ps_a (σ 35) sz s)).2.length + 1 ≤ _; omega)
        unfold pr_lp
        rw [if_pos h]
        dsimp only
        rw [← List.append_assoc, List.append_cons]
        exact this
      · have h : ¬ pr_lev (ps_t (σ 35) sz s) = nI l := h
        repeat first | refine zT.step ct_X1_readLevel_ok ?_ | refine And.intro ⟨by decide, _, rfl⟩ ?_ | refine And.intro ⟨by decide, rfl⟩ ?_
        refine And.intro rfl (And.intro rfl ?_)
        unfold pr_lp
        rw [if_neg h, List.append_nil]
  have go : zT X d m_X1_readLevel (fun w L2 μ2 => w = none ∧ L2 = L0 ∧ μ2 = mm (rm σ t sz (pr_lv (σ 35) sz most (nI l) sub s).1 (c ++ (pr_lv (σ 35) sz most (nI l) sub s).2)) τ (some (16 + 3 * t))) 0 0 34 [some (.ref 34), some (.int (nI l)), some (.int (nI (5 - k))), none, none, none] [] L0 (mm (rm σ t sz s c) τ (some (16 + 3 * t))) := by
    have hg := hP s hs
    have := lp most 0 (sub s).1 (c ++ (sub s).2) (by omega) hg.2 (by rw [List.length_append]; omega)
    rw [List.append_assoc] at this
    refine zT.step ct_X1_readLevel_ok ?_
    refine zT.step ct_X1_readLevel_ok ?_
    refine zT.step ct_X1_readLevel_ok ?_
    refine zT.step ct_X1_readLevel_ok ?_
    show zT X d m_X1_readLevel _ 0 0 38 _ [.int (nI l + 1), .ref 34] _ _
    rw [nI_1]
    refine zT.step ct_X1_readLevel_ok ?_
    refine zT.step ct_X1_readLevel_ok ?_
    refine And.intro ⟨by omega, by decide, _, rfl⟩ (zF.use (hS (d - 1) _ c (by omega) hs hc) ?_)
    repeat first | refine zT.step ct_X1_readLevel_ok ?_ | refine And.intro ⟨by decide, _, rfl⟩ ?_ | refine And.intro ⟨by decide, rfl⟩ ?_
    refine And.intro (fun h => ?_) (fun h => ?_)
    · have h : nI l = 2 := h
      have h : l = 2 := (i_eq (x := nI l) (y := 2) (b := 2) rfl rfl (by omega) (by omega)).mp h
      have hm1 : most = 1 := by omega
      refine zT.step ct_X1_readLevel_ok ?_
      refine zT.step ct_X1_readLevel_ok ?_
      refine zT.step ct_X1_readLevel_ok ?_
      refine zT.step ct_X1_readLevel_ok ?_
      refine zT.step ct_X1_readLevel_ok ?_
      rw [hm1] at this ⊢
      exact this
    · have h : ¬ nI l = 2 := h
      have h : ¬ l = 2 := fun q => h (by rw [q]; rfl)
      have hm1 : most = 160 := by omega
      refine zT.step ct_X1_readLevel_ok ?_
      refine zT.step ct_X1_readLevel_ok ?_
      refine zT.step ct_X1_readLevel_ok ?_
      refine zT.step ct_X1_readLevel_ok ?_
      rw [hm1] at this ⊢
      exact this
  refine zF.of mk_X1_readLevel rfl ?_
  repeat first | refine zT.step ct_X1_readLevel_ok ?_ | refine And.intro ⟨by decide, _, rfl⟩ ?_ | refine And.intro ⟨by decide, rfl⟩ ?_
  refine And.intro (fun _ => ?_) (fun h => absurd (nI_lt hl (by decide)) h)
  repeat first | refine zT.step ct_X1_readLevel_ok ?_ | refine And.intro ⟨by decide, _, rfl⟩ ?_ | refine And.intro ⟨by decide, rfl⟩ ?_
  refine And.intro (fun h => ?_) (fun _ => go)
  have h : nI l = 2 := h
  have h : l = 2 := (i_eq (x := nI l) (y := 2) (b := 2) rfl rfl (by omega) (by omega)).mp h
  repeat first | refine zT.step ct_X1_readLevel_ok ?_ | refine And.intro ⟨by decide, _, rfl⟩ ?_ | refine And.intro ⟨by decide, rfl⟩ ?_
  refine And.intro (fun h2 => absurd h2 (hn h)) (fun _ => go)
theorem SL_step {X : zXs} {t sz k : Nat} {σ : zSg} {τ : Nat → Nat → Int64} {D : Option (Nat → PT)} (ht : t < 6) (h0 : σ 34 0 = nI sz) (hsz : sz ≤ 160) (hk5 : k ≤ 5) (hDk : (D = none ∧ k = 0) ∨ ∃ g k', D = some g ∧ k = k' + 1 ∧ (∀ l, l ≤ 5 → SLv X σ τ t sz k' l (g l)) ∧ ∀ l, PK sz (g l)) : ∀ l, l ≤ 5 → SLv X σ τ t sz k l (pr_L (σ 35) sz D l) := by
  have hP : ∀ l, PK sz (pr_L (σ 35) sz D l) := by
    intro l
    refine PK.L (fun d e => ?_) l
    rcases hDk with ⟨e1, -⟩ | ⟨g, k', e1, -, -, hP⟩
    · rw [e1] at e; cases e
    · rw [e1] at e; cases e; exact hP
  have l5 : SLv X σ τ t sz k 5 (pr_L (σ 35) sz D 5) := by
    intro d s c hd hs hc
    refine zF.of mk_X1_readLevel rfl ?_
    repeat first | refine zT.step ct_X1_readLevel_ok ?_ | refine And.intro ⟨by decide, _, rfl⟩ ?_ | refine And.intro ⟨by decide, rfl⟩ ?_
    refine And.intro (fun h => absurd h (by decide)) (fun _ => ?_)
    repeat first | refine zT.step ct_X1_readLevel_ok ?_ | refine And.intro ⟨by decide, _, rfl⟩ ?_ | refine And.intro ⟨by decide, rfl⟩ ?_
    refine And.intro ⟨by omega, by decide, _, rfl⟩ (zF.use (s_readOne (D := D) ht h0 hsz (by omega) hk5 hDk hs hc) ?_)
    repeat first | refine zT.step ct_X1_readLevel_ok ?_ | refine And.intro ⟨by decide, _, rfl⟩ ?_ | refine And.intro ⟨by decide, rfl⟩ ?_
    exact And.intro rfl (And.intro rfl rfl)
  have l4 : SLv X σ τ t sz k 4 (pr_L (σ 35) sz D 4) := fun d s c hd hs hc => s_rlv ht h0 hsz hk5 (by decide) (Or.inr ⟨by decide, rfl⟩) l5 (hP 5) d s c hd hs hc (fun q => absurd q (by decide))
  have l3 : SLv X σ τ t sz k 3 (pr_L (σ 35) sz D 3) := fun d s c hd hs hc => s_rlv ht h0 hsz hk5 (by decide) (Or.inr ⟨by decide, rfl⟩) l4 (hP 4) d s c hd hs hc (fun q => absurd q (by decide))
  have l2 : SLv X σ τ t sz k 2 (pr_L (σ 35) sz D 2) := by
    intro d s c hd hs hc
    by_cases h : ps_t (σ 35) sz s = -18
    · have e : pr_L (σ 35) sz D 2 s = pr_beh (σ 35) sz D (-18) 2 s := by show pr_2 (σ 35) sz D s = _; unfold pr_2; rw [if_pos h]
      rw [e]
      have dist : (D = none ∧ k = 0) ∨ ∃ g k', D = some g ∧ k = k' + 1 ∧ SLv X σ τ t sz k' 2 (g 2) ∧ PK sz (g 2) := by
        rcases hDk with q | ⟨g, k', e1, e2, hS, hP⟩
        · exact Or.inl q
        · exact Or.inr ⟨g, k', e1, e2, hS 2 (by decide), hP 2⟩
      refine zF.of mk_X1_readLevel rfl ?_
      repeat first | refine zT.step ct_X1_readLevel_ok ?_ | refine And.intro ⟨by decide, _, rfl⟩ ?_ | refine And.intro ⟨by decide, rfl⟩ ?_
      refine And.intro (fun _ => ?_) (fun h => absurd (by decide) h)
      repeat first | refine zT.step ct_X1_readLevel_ok ?_ | refine And.intro ⟨by decide, _, rfl⟩ ?_ | refine And.intro ⟨by decide, rfl⟩ ?_
      refine And.intro (fun _ => ?_) (fun h => absurd rfl h)
      repeat first | refine zT.step ct_X1_readLevel_ok ?_ | refine And.intro ⟨by decide, _, rfl⟩ ?_ | refine And.intro ⟨by decide, rfl⟩ ?_
      refine And.intro (fun _ => ?_) (fun h2 => absurd h h2)
      repeat first | refine zT.step ct_X1_readLevel_ok ?_ | refine And.intro ⟨by decide, _, rfl⟩ ?_ | refine And.intro ⟨by decide, rfl⟩ ?_
      refine And.intro ⟨by omega, by decide, _, rfl⟩ (zF.use (s_readBehind (D := D) (st := -18) (l := 2) ht h0 hsz (by omega) (by omega) hk5 (by decide) (by decide) dist hs hc (by rw [h]; decide) (by rw [h]; decide)) ?_)
      repeat first | refine zT.step ct_X1_readLevel_ok ?_ | refine And.intro ⟨by decide, _, rfl⟩ ?_ | refine And.intro ⟨by decide, rfl⟩ ?_
      exact And.intro rfl (And.intro rfl rfl)
    · have e : pr_L (σ 35) sz D 2 s = pr_lv (σ 35) sz 1 2 (pr_3 (σ 35) sz D) s := by show pr_2 (σ 35) sz D s = _; unfold pr_2; rw [if_neg h]
      rw [e]
      exact s_rlv ht h0 hsz hk5 (by decide) (Or.inl ⟨rfl, rfl⟩) l3 (hP 3) d s c hd hs hc (fun _ => h)
  have l1 : SLv X σ τ t sz k 1 (pr_L (σ 35) sz D 1) := fun d s c hd hs hc => s_rlv ht h0 hsz hk5 (by decide) (Or.inr ⟨by decide, rfl⟩) l2 (hP 2) d s c hd hs hc (fun q => absurd q (by decide))
  have l0 : SLv X σ τ t sz k 0 (pr_L (σ 35) sz D 0) := fun d s c hd hs hc => s_rlv ht h0 hsz hk5 (by decide) (Or.inr ⟨by decide, rfl⟩) l1 (hP 1) d s c hd hs hc (fun q => absurd q (by decide))
  intro l hl
  match l, hl with
  | 0, _ => exact l0
  | 1, _ => exact l1
  | 2, _ => exact l2
  | 3, _ => exact l3
  | 4, _ => exact l4
  | 5, _ => exact l5
theorem SL_all {X : zXs} {t sz : Nat} {σ : zSg} {τ : Nat → Nat → Int64} (ht : t < 6) (h0 : σ 34 0 = nI sz) (hsz : sz ≤ 160) : ∀ (k : Nat), k ≤ 5 → ∀ l, l ≤ 5 → SLv X σ τ t sz k l (pr_L (σ 35) sz (pr_D (σ 35) sz k) l) := by
  intro k
  induction k with
  | zero => 
    intro hk5
    exact SL_step ht h0 hsz hk5 (Or.inl ⟨rfl, rfl⟩)
  | succ k ih =>
    intro hk5
    exact SL_step ht h0 hsz hk5 (Or.inr ⟨_, k, rfl, rfl, ih (by omega), fun l => PK.D (k + 1) _ rfl l⟩)
