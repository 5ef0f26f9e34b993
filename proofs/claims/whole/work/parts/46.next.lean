/-! the reference's next, fail, isSign, isWord, opens, name -/
theorem zT.abs2 {X : zXs} {d : Nat} {M : zMD} {Q : zRQ} {k n pc : Nat} {ls : zLs} {st : List Value} {L : List zSh} {μ : zMem} {r : Option Nat} (hμ : μ.2.2 = z_rho r) (h : ∀ (σ1 : zSg) (τ1 : Nat → Nat → Int64), σ1 = μ.1 → τ1 = μ.2.1 → zT X d M Q k n pc ls st L (mm σ1 τ1 r)) : zT X d M Q k n pc ls st L μ := by
  have e : μ = mm μ.1 μ.2.1 r := Prod.ext rfl (Prod.ext rfl hμ)
  rw [e]
  exact h _ _ rfl rfl
/-- the same but for what next() writes -/
def SN (σ σ' : zSg) : Prop := (∀ b, b ≠ 50 → σ' b = σ b) ∧ ∀ k, k ≠ 20 → k ≠ 21 → k ≠ 22 → σ' 50 k = σ 50 k
theorem SN.rf {σ : zSg} : SN σ σ := ⟨fun _ _ => rfl, fun _ _ _ _ => rfl⟩
theorem SN.trans {a b c : zSg} (h1 : SN a b) (h2 : SN b c) : SN a c := ⟨fun x hx => (h2.1 x hx).trans (h1.1 x hx), fun k k0 k1 k2 => (h2.2 k k0 k1 k2).trans (h1.2 k k0 k1 k2)⟩
theorem SN.up {σ : zSg} {k : Nat} {v : Int32} (h : k = 20 ∨ k = 21 ∨ k = 22) : SN σ (z_up σ 50 k v) := ⟨fun b hb => zu_n _ _ _ _ _ hb, fun j h0 h1 h2 => zu_k _ _ _ _ _ (by rcases h with e | e | e <;> (rw [e]; assumption))⟩
theorem SN.bytes {σ σ' : zSg} (h : SN σ σ') (t : Nat) : tB σ' t = tB σ t := by
  funext i
  show σ' 51 _ = σ 51 _
  rw [h.1 51 (by decide)]
theorem SN.rb {σ σ' : zSg} (h : SN σ σ') {t sz : Nat} (hB : RB σ t sz) : RB σ' t sz := by
  obtain ⟨h1, h2, h3, h4, h5⟩ := hB
  exact ⟨by rw [h.2 18 (by decide) (by decide) (by decide)]; exact h1, by rw [h.2 19 (by decide) (by decide) (by decide)]; exact h2, h3, h4, fun i hi => by rw [h.1 51 (by decide)]; exact h5 i hi⟩
/-- what next() tells of the token that it found from p on -/
def TF (σ : zSg) (τ : Nat → Nat → Int64) (f : Nat → Int32) (sz p : Nat) : Prop := σ 50 22 = nI (lx_b f sz p) ∧ σ 50 21 = nI (k_tok f sz p) ∧ (k_tok f sz p = 1 ∨ k_tok f sz p = 2 ∨ k_tok f sz p = 3 → σ 50 20 = nI (lx_e f sz p)) ∧ (k_tok f sz p = 2 → (τ 50 23).toInt32 = lx_t f sz p) ∧ (k_tok f sz p = 3 → τ 50 23 = (f (lx_b f sz p)).toInt64)
theorem mm_upk (σ : zSg) (τ : Nat → Nat → Int64) (r : Option Nat) (a k j : Nat) (v : Int32) (h : j ≠ k) : (mm (z_up σ a k v) τ r).1 a j = σ a j := zu_k _ _ _ _ _ h
theorem isL_m : isL (-1) = false := by decide
theorem isD_m : isD (-1) = false := by decide
theorem t_isL {X : zXs} {d : Nat} {L : List zSh} {μ : zMem} {x : Int32} : zF X d m_X7_in [.long x.toInt64, .long 97, .long 122] L μ (some (.int (f_b (isL x)))) μ := t_inI (a := 97) (b := 122) rfl rfl
theorem t_isD {X : zXs} {d : Nat} {L : List zSh} {μ : zMem} {x : Int32} : zF X d m_X7_in [.long x.toInt64, .long 48, .long 57] L μ (some (.int (f_b (isD x)))) μ := t_inI (a := 48) (b := 57) rfl rfl
theorem t_next {X : zXs} {d t sz p : Nat} {σ : zSg} {τ : Nat → Nat → Int64} {r : Option Nat} (hd : 2 ≤ d) (hB : RB σ t sz) (h20 : σ 50 20 = nI p) (hp : p ≤ sz) : zC X d 0 0 m_X7_next [.ref 50] L0 (mm σ τ r) (fun w L2 μ2 => w = none ∧ L2 = L0 ∧ ∃ σ' τ', μ2 = mm σ' τ' r ∧ SN σ σ' ∧ TF σ' τ' (tB σ t) sz p) := by
  have hsz := hB.2.2.1
  obtain ⟨f, hf⟩ : ∃ f, f = tB σ t := ⟨_, rfl⟩
  rw [← hf]
  have ba : ∀ (σ1 : zSg) (τ1 : Nat → Nat → Int64) (i : Nat), SN σ σ1 → i < 100000 → σ1 50 20 = nI i → zF X (d - 1) m_X7_byteAt [.ref 50, .int (σ1 50 20)] L0 (mm σ1 τ1 r) (some (.int (bA f sz i))) (mm σ1 τ1 r) := by
    intro σ1 τ1 i s1 hi hx
    have := t_byteAt (X := X) (d := d - 1) (τ := τ1) (r := r) (s1.rb hB) hx hi
    rw [s1.bytes, ← hf] at this
    exact this
  -- from 39 on: here stands at the token's begin
  have rest : ∀ b, b = lx_b f sz p → b ≤ sz → zT X d m_X7_next (fun w L2 μ2 => w = none ∧ L2 = L0 ∧ ∃ σ' τ', μ2 = mm σ' τ' r ∧ SN σ σ' ∧ TF σ' τ' f sz p) 0 0 39 [some (.ref 50), none, none] [] L0 (mm (z_up σ 50 20 (nI b)) τ r) := by
    intro b hb hbs
    have hk : k_tok f sz p = (if sz ≤ b then 0 else bif isL (f b) then 1 else bif isD (f b) then (if 4 < lx_e0 f sz b - b then 4 else 2) else if lx_sg (f b) = -31 then 4 else 3) := by unfold k_tok lx_e; rw [← hb]
    have ht : lx_t f sz p = lx_t0 f sz b := by unfold lx_t; rw [← hb]
    have he : lx_e f sz p = lx_e0 f sz b := by unfold lx_e; rw [← hb]
    unfold TF
    rw [← hb]
    refine zT.step ct_X7_next_ok ?_
    refine zT.step ct_X7_next_ok ?_
    refine zT.step ct_X7_next_ok ?_
    refine And.intro (by first | exact ⟨by decide, _, rfl⟩) ?_
    refine zT.step ct_X7_next_ok ?_
    refine And.intro (by first | exact ⟨by decide, _, rfl⟩) ?_
    refine zT.abs (τ := τ) (r := r) rfl fun σ1 e1 => ?_
    have s1 : SN σ σ1 := by rw [e1]; exact (SN.up (Or.inl rfl)).trans (SN.up (Or.inr (Or.inr rfl)))
    have a20 : σ1 50 20 = nI b := by rw [e1]; simp only [sI_1, mm_1]; rw [zu_k _ _ _ _ _ (by decide), z_up_s]
    have a22 : σ1 50 22 = nI b := by rw [e1]; simp only [sI_1, mm_1]; rw [z_up_s, z_up_s]
    clear e1
    refine zT.step ct_X7_next_ok ?_
    refine zT.step ct_X7_next_ok ?_
    refine zT.step ct_X7_next_ok ?_
    refine And.intro ⟨by decide, _, rfl⟩ ?_
    refine zT.step ct_X7_next_ok ?_
    refine And.intro ⟨by omega, by decide, _, rfl⟩ (zF.use (ba σ1 τ b s1 (by omega) a20) ?_)
    refine zT.step ct_X7_next_ok ?_
    refine zT.step ct_X7_next_ok ?_
    refine zT.step ct_X7_next_ok ?_
    refine zT.step ct_X7_next_ok ?_
    refine And.intro ⟨by decide, _, rfl⟩ ?_
    refine zT.abs (τ := τ) (r := r) rfl fun σ2 e2 => ?_
    have s2 : SN σ σ2 := by rw [e2]; exact s1.trans (SN.up (Or.inr (Or.inl rfl)))
    have b20 : σ2 50 20 = nI b := by rw [e2]; simp only [sI_1, mm_1]; rw [zu_k _ _ _ _ _ (by decide)]; exact a20
    have b22 : σ2 50 22 = nI b := by rw [e2]; simp only [sI_1, mm_1]; rw [zu_k _ _ _ _ _ (by decide)]; exact a22
    have b21 : σ2 50 21 = 4 := by rw [e2]; simp only [sI_1, mm_1]; rw [z_up_s]
    clear e2
    obtain ⟨-, h19, -, -, hby⟩ := s2.rb hB
    refine zT.step ct_X7_next_ok ?_
    refine zT.step ct_X7_next_ok ?_
    refine And.intro (fun h => ?_) (fun h => ?_)
    · have h : 0 ≤ bA f sz b := h
      have hlt : b < sz := by
        rcases Nat.lt_or_ge b sz with q | q
        · exact q
        · unfold bA at h; rw [if_neg (by omega)] at h; exact absurd h (by decide)
      have e1 : bA f sz b = f b := by unfold bA; rw [if_pos hlt]
      rw [e1]
      rw [if_neg (show ¬ sz ≤ b by omega)] at hk
      refine zT.step ct_X7_next_ok ?_
      refine zT.step ct_X7_next_ok ?_
      refine zT.step ct_X7_next_ok ?_
      refine zT.step ct_X7_next_ok ?_
      refine zT.step ct_X7_next_ok ?_
      refine And.intro (by omega) (zF.use t_isL ?_)
      refine zT.step ct_X7_next_ok ?_
      refine And.intro (fun q => ?_) (fun q => ?_)
      · have q := fb0 q
        rw [q] at hk
        have hk : k_tok f sz p = (bif isD (f b) then (if 4 < lx_e0 f sz b - b then 4 else 2) else if lx_sg (f b) = -31 then 4 else 3) := hk
        refine zT.step ct_X7_next_ok ?_
        refine zT.step ct_X7_next_ok ?_
        refine zT.step ct_X7_next_ok ?_
        refine zT.step ct_X7_next_ok ?_
        refine zT.step ct_X7_next_ok ?_
        refine And.intro (by omega) (zF.use t_isD ?_)
        refine zT.step ct_X7_next_ok ?_
        refine And.intro (fun q2 => ?_) (fun q2 => ?_)
        · -- a sign, or none
          have q2 := fb0 q2
          rw [q2] at hk
          have hk : k_tok f sz p = (if lx_sg (f b) = -31 then 4 else 3) := hk
          have he2 : lx_e0 f sz b = b + 1 := by unfold lx_e0; rw [if_neg (show ¬ sz ≤ b by omega), q, q2]; rfl
          have yes : lx_sg (f b) ≠ -31 → zT X d m_X7_next (fun w L2 μ2 => w = none ∧ L2 = L0 ∧ ∃ σ' τ', μ2 = mm σ' τ' r ∧ SN σ σ' ∧ σ' 50 22 = nI b ∧ σ' 50 21 = nI (k_tok f sz p) ∧ (k_tok f sz p = 1 ∨ k_tok f sz p = 2 ∨ k_tok f sz p = 3 → σ' 50 20 = nI (lx_e f sz p)) ∧ (k_tok f sz p = 2 → (τ' 50 23).toInt32 = lx_t f sz p) ∧ (k_tok f sz p = 3 → τ' 50 23 = (f b).toInt64)) 0 0 300 [some (.ref 50), some (.int (f b)), none] [] L0 (mm σ2 τ r) := by
            intro hs
            rw [if_neg hs] at hk
            refine zT.step ct_X7_next_ok ?_
            refine zT.step ct_X7_next_ok ?_
            refine zT.step ct_X7_next_ok ?_
            refine And.intro ⟨by decide, _, rfl⟩ ?_
            refine zT.step ct_X7_next_ok ?_
            refine zT.step ct_X7_next_ok ?_
            refine zT.step ct_X7_next_ok ?_
            refine zT.step ct_X7_next_ok ?_
            refine And.intro ⟨by decide, _, rfl⟩ ?_
            refine zT.step ct_X7_next_ok ?_
            refine zT.step ct_X7_next_ok ?_
            refine zT.step ct_X7_next_ok ?_
            refine And.intro ⟨by decide, _, rfl⟩ ?_
            refine zT.step ct_X7_next_ok ?_
            refine zT.step ct_X7_next_ok ?_
            refine zT.step ct_X7_next_ok ?_
            refine And.intro ⟨by decide, _, rfl⟩ ?_
            refine zT.step ct_X7_next_ok ?_
            refine And.intro rfl (And.intro rfl ⟨z_up (z_up σ2 50 21 3) 50 20 (σ2 50 20 + 1), z_up τ 50 23 (f b).toInt64, rfl, ?_, ?_, ?_, ?_, ?_, ?_⟩)
            · exact (s2.trans (SN.up (Or.inr (Or.inl rfl)))).trans (SN.up (Or.inl rfl))
            · rw [zu_k _ _ _ _ _ (by decide), zu_k _ _ _ _ _ (by decide)]; exact b22
            · rw [zu_k _ _ _ _ _ (by decide), z_up_s, hk]; rfl
            · intro _; rw [z_up_s, b20, nI_1, he, he2]
            · intro h; rw [hk] at h; cases h
            · intro _; exact z_up_s _ _ _ _
          refine zT.step ct_X7_next_ok ?_
          refine zT.step ct_X7_next_ok ?_
          refine zT.step ct_X7_next_ok ?_
          refine And.intro (fun h0 => yes (by have h0 : f b = 40 := h0; rw [h0]; decide)) (fun h0 => ?_)
          refine zT.step ct_X7_next_ok ?_
          refine zT.step ct_X7_next_ok ?_
          refine zT.step ct_X7_next_ok ?_
          refine And.intro (fun h1 => yes (by have h1 : f b = 41 := h1; rw [h1]; decide)) (fun h1 => ?_)
          refine zT.step ct_X7_next_ok ?_
          refine zT.step ct_X7_next_ok ?_
          refine zT.step ct_X7_next_ok ?_
          refine And.intro (fun h2 => yes (by have h2 : f b = 59 := h2; rw [h2]; decide)) (fun h2 => ?_)
          refine zT.step ct_X7_next_ok ?_
          refine zT.step ct_X7_next_ok ?_
          refine zT.step ct_X7_next_ok ?_
          refine And.intro (fun h3 => yes (by have h3 : f b = 43 := h3; rw [h3]; decide)) (fun h3 => ?_)
          refine zT.step ct_X7_next_ok ?_
          refine zT.step ct_X7_next_ok ?_
          refine zT.step ct_X7_next_ok ?_
          refine And.intro (fun h4 => yes (by have h4 : f b = 45 := h4; rw [h4]; decide)) (fun h4 => ?_)
          refine zT.step ct_X7_next_ok ?_
          refine zT.step ct_X7_next_ok ?_
          refine zT.step ct_X7_next_ok ?_
          refine And.intro (fun h5 => yes (by have h5 : f b = 42 := h5; rw [h5]; decide)) (fun h5 => ?_)
          refine zT.step ct_X7_next_ok ?_
          refine zT.step ct_X7_next_ok ?_
          refine zT.step ct_X7_next_ok ?_
          refine And.intro (fun h6 => yes (by have h6 : f b = 60 := h6; rw [h6]; decide)) (fun h6 => ?_)
          refine zT.step ct_X7_next_ok ?_
          refine zT.step ct_X7_next_ok ?_
          refine zT.step ct_X7_next_ok ?_
          refine And.intro (fun h7 => yes (by have h7 : f b = 61 := h7; rw [h7]; decide)) (fun h7 => ?_)
          have hs : lx_sg (f b) = -31 := by
            have h0 : ¬ f b = 40 := h0
            have h1 : ¬ f b = 41 := h1
            have h2 : ¬ f b = 59 := h2
            have h3 : ¬ f b = 43 := h3
            have h4 : ¬ f b = 45 := h4
            have h5 : ¬ f b = 42 := h5
            have h6 : ¬ f b = 60 := h6
            have h7 : ¬ f b = 61 := h7
            simp [lx_sg, h0, h1, h2, h3, h4, h5, h6, h7]
          rw [if_pos hs] at hk
          refine zT.step ct_X7_next_ok ?_
          refine And.intro rfl (And.intro rfl ⟨σ2, τ, rfl, s2, b22, by rw [b21, hk]; rfl, fun h => ?_, fun h => ?_, fun h => ?_⟩)
          · rw [hk] at h; rcases h with h | h | h <;> cases h
          · rw [hk] at h; cases h
          · rw [hk] at h; cases h
        · -- a number
          have q2 := fb1 q2
          rw [q2] at hk
          have hk : k_tok f sz p = (if 4 < lx_e0 f sz b - b then 4 else 2) := hk
          have he2 : lx_e0 f sz b = lx_w isD f (sz - b) b := by unfold lx_e0; rw [if_neg (show ¬ sz ≤ b by omega), q, q2]; rfl
          have ht2 : ¬ 4 < lx_e0 f sz b - b → lx_t f sz p = lx_num f (sz - b) b 0 := by
            intro h4
            rw [ht]
            unfold lx_t0
            rw [if_neg (show ¬ sz ≤ b by omega), q, q2]
            show (if 4 < lx_w isD f (sz - b) b - b then (-31 : Int32) else _) = _
            rw [if_neg (by rw [← he2]; exact h4)]
          have lp : ∀ (m x e : Nat) (a v : Int32) (σ3 : zSg) (τ3 : Nat → Nat → Int64), x + m = sz → b ≤ x → SN σ σ3 → σ3 50 20 = nI x → σ3 50 22 = nI b → (x - b ≤ 4 → (τ3 50 23).toInt32 = a) → e = lx_w isD f m x → v = lx_num f m x a → (∀ (σ4 : zSg) (τ4 : Nat → Nat → Int64), SN σ σ4 → σ4 50 20 = nI e → σ4 50 22 = nI b → (e - b ≤ 4 → (τ4 50 23).toInt32 = v) → zT X d m_X7_next (fun w L2 μ2 => w = none ∧ L2 = L0 ∧ ∃ σ' τ', μ2 = mm σ' τ' r ∧ SN σ σ' ∧ σ' 50 22 = nI b ∧ σ' 50 21 = nI (k_tok f sz p) ∧ (k_tok f sz p = 1 ∨ k_tok f sz p = 2 ∨ k_tok f sz p = 3 → σ' 50 20 = nI (lx_e f sz p)) ∧ (k_tok f sz p = 2 → (τ' 50 23).toInt32 = lx_t f sz p) ∧ (k_tok f sz p = 3 → τ' 50 23 = (f b).toInt64)) 0 0 235 [some (.ref 50), some (.int (f b)), some (.int (nI (e - b)))] [] L0 (mm σ4 τ4 r)) → zT X d m_X7_next (fun w L2 μ2 => w = none ∧ L2 = L0 ∧ ∃ σ' τ', μ2 = mm σ' τ' r ∧ SN σ σ' ∧ σ' 50 22 = nI b ∧ σ' 50 21 = nI (k_tok f sz p) ∧ (k_tok f sz p = 1 ∨ k_tok f sz p = 2 ∨ k_tok f sz p = 3 → σ' 50 20 = nI (lx_e f sz p)) ∧ (k_tok f sz p = 2 → (τ' 50 23).toInt32 = lx_t f sz p) ∧ (k_tok f sz p = 3 → τ' 50 23 = (f b).toInt64)) 0 0 160 [some (.ref 50), some (.int (f b)), some (.int (nI (x - b)))] [] L0 (mm σ3 τ3 r) := by
            intro m
            induction m with
            | zero =>
              intro x e a v σ3 τ3 hx hbx s3 c20 c22 cw he3 hv K
              have he3 : e = x := he3
              have hv2 : v = a := hv
              refine zT.step ct_X7_next_ok ?_
              refine zT.step ct_X7_next_ok ?_
              refine zT.step ct_X7_next_ok ?_
              refine And.intro ⟨by decide, _, rfl⟩ ?_
              refine zT.step ct_X7_next_ok ?_
              refine And.intro ⟨by omega, by decide, _, rfl⟩ (zF.use (ba σ3 τ3 x s3 (by omega) c20) ?_)
              have e3 : bA f sz x = -1 := by unfold bA; rw [if_neg (by omega)]
              rw [e3]
              refine zT.step ct_X7_next_ok ?_
              refine zT.step ct_X7_next_ok ?_
              refine zT.step ct_X7_next_ok ?_
              refine zT.step ct_X7_next_ok ?_
              refine And.intro (by omega) (zF.use t_isD ?_)
              rw [isD_m]
              refine zT.step ct_X7_next_ok ?_
              refine And.intro (fun _ => ?_) (fun h => absurd rfl h)
              rw [← he3]
              rw [← he3] at c20 cw
              exact K σ3 τ3 s3 c20 c22 (by rw [hv2]; exact cw)
            | succ m ih =>
              intro x e a v σ3 τ3 hx hbx s3 c20 c22 cw he3 hv K
              have e3 : bA f sz x = f x := by unfold bA; rw [if_pos (by omega)]
              refine zT.step ct_X7_next_ok ?_
              refine zT.step ct_X7_next_ok ?_
              refine zT.step ct_X7_next_ok ?_
              refine And.intro ⟨by decide, _, rfl⟩ ?_
              refine zT.step ct_X7_next_ok ?_
              refine And.intro ⟨by omega, by decide, _, rfl⟩ (zF.use (ba σ3 τ3 x s3 (by omega) c20) ?_)
              rw [e3]
              refine zT.step ct_X7_next_ok ?_
              refine zT.step ct_X7_next_ok ?_
              refine zT.step ct_X7_next_ok ?_
              refine zT.step ct_X7_next_ok ?_
              refine And.intro (by omega) (zF.use t_isD ?_)
              refine zT.step ct_X7_next_ok ?_
              refine And.intro (fun q3 => ?_) (fun q3 => ?_)
              · have q3 := fb0 q3
                have he4 : e = x := by rw [he3]; unfold lx_w; rw [q3]; rfl
                have hv2 : v = a := by rw [hv]; unfold lx_num; rw [q3]; rfl
                rw [← he4]
                rw [← he4] at c20 cw
                exact K σ3 τ3 s3 c20 c22 (by rw [hv2]; exact cw)
              · have q3 := fb1 q3
                have he4 : e = lx_w isD f m (x + 1) := by rw [he3]; show (bif isD (f x) then _ else _) = _; rw [q3]; rfl
                have hv2 : v = lx_num f m (x + 1) (a * 10 + f x - 48) := by rw [hv]; show (bif isD (f x) then _ else _) = _; rw [q3]; rfl
                have go : ∀ w : Int64, (x + 1 - b ≤ 4 → w.toInt32 = a * 10 + f x - 48) → zT X d m_X7_next (fun w L2 μ2 => w = none ∧ L2 = L0 ∧ ∃ σ' τ', μ2 = mm σ' τ' r ∧ SN σ σ' ∧ σ' 50 22 = nI b ∧ σ' 50 21 = nI (k_tok f sz p) ∧ (k_tok f sz p = 1 ∨ k_tok f sz p = 2 ∨ k_tok f sz p = 3 → σ' 50 20 = nI (lx_e f sz p)) ∧ (k_tok f sz p = 2 → (τ' 50 23).toInt32 = lx_t f sz p) ∧ (k_tok f sz p = 3 → τ' 50 23 = (f b).toInt64)) 0 0 216 [some (.ref 50), some (.int (f b)), some (.int (nI (x - b)))] [.long w, .ref 50] L0 (mm σ3 τ3 r) := by
                  intro w hw
                  refine zT.step ct_X7_next_ok ?_
                  refine And.intro ⟨by decide, _, rfl⟩ ?_
                  refine zT.step ct_X7_next_ok ?_
                  refine zT.step ct_X7_next_ok ?_
                  refine zT.step ct_X7_next_ok ?_
                  refine zT.step ct_X7_next_ok ?_
                  refine And.intro ⟨by decide, _, rfl⟩ ?_
                  refine zT.step ct_X7_next_ok ?_
                  refine zT.step ct_X7_next_ok ?_
                  refine zT.step ct_X7_next_ok ?_
                  refine And.intro ⟨by decide, _, rfl⟩ ?_
                  refine zT.step ct_X7_next_ok ?_
                  rw [nI_1, show x - b + 1 = x + 1 - b by omega]
                  exact ih (x + 1) e (a * 10 + f x - 48) v (z_up σ3 50 20 (σ3 50 20 + 1)) (z_up τ3 50 23 w) (by omega) (by omega) (s3.trans (SN.up (Or.inl rfl))) (by rw [z_up_s, c20, nI_1]) (by rw [zu_k _ _ _ _ _ (by decide)]; exact c22) (fun h => by rw [show z_up τ3 50 23 w 50 23 = w from z_up_s _ _ _ _]; exact hw h) he4 hv2 K
                refine zT.step ct_X7_next_ok ?_
                refine zT.step ct_X7_next_ok ?_
                refine zT.step ct_X7_next_ok ?_
                refine zT.step ct_X7_next_ok ?_
                refine And.intro (fun q4 => ?_) (fun q4 => ?_)
                · have q4 : nI 4 ≤ nI (x - b) := q4
                  have q4 := (nI_leI (by omega) (by omega)).mp q4
                  refine zT.step ct_X7_next_ok ?_
                  refine zT.step ct_X7_next_ok ?_
                  refine And.intro ⟨by decide, _, rfl⟩ ?_
                  exact go _ (fun h => absurd h (by omega))
                · have q4 : ¬ nI 4 ≤ nI (x - b) := q4
                  have q4 : x - b < 4 := i_ge rfl rfl (by omega) (by omega) q4
                  refine zT.step ct_X7_next_ok ?_
                  refine zT.step ct_X7_next_ok ?_
                  refine zT.step ct_X7_next_ok ?_
                  refine And.intro ⟨by decide, _, rfl⟩ ?_
                  refine zT.step ct_X7_next_ok ?_
                  refine zT.step ct_X7_next_ok ?_
                  refine zT.step ct_X7_next_ok ?_
                  refine zT.step ct_X7_next_ok ?_
                  refine And.intro ⟨by decide, _, rfl⟩ ?_
                  refine zT.step ct_X7_next_ok ?_
                  refine And.intro ⟨by omega, by decide, _, rfl⟩ (zF.use (ba σ3 τ3 x s3 (by omega) c20) ?_)
                  rw [e3]
                  refine zT.step ct_X7_next_ok ?_
                  refine zT.step ct_X7_next_ok ?_
                  refine zT.step ct_X7_next_ok ?_
                  refine zT.step ct_X7_next_ok ?_
                  refine zT.step ct_X7_next_ok ?_
                  refine go _ (fun _ => ?_)
                  show ((10 : Int64) * τ3 50 23 + (f x).toInt64 - 48).toInt32 = _
                  rw [Int64.toInt32_sub, Int64.toInt32_add, Int64.toInt32_mul, cw (by omega), Int32.toInt32_toInt64, Int32.mul_comm]
                  rfl
          refine zT.step ct_X7_next_ok ?_
          refine zT.step ct_X7_next_ok ?_
          refine zT.step ct_X7_next_ok ?_
          refine And.intro ⟨by decide, _, rfl⟩ ?_
          refine zT.step ct_X7_next_ok ?_
          refine zT.step ct_X7_next_ok ?_
          refine zT.step ct_X7_next_ok ?_
          refine And.intro ⟨by decide, _, rfl⟩ ?_
          refine zT.step ct_X7_next_ok ?_
          refine zT.step ct_X7_next_ok ?_
          have := lp (sz - b) b _ 0 _ (z_up σ2 50 21 2) (z_up τ 50 23 0) (by omega) (Nat.le_refl _) (s2.trans (SN.up (Or.inr (Or.inl rfl)))) (by rw [zu_k _ _ _ _ _ (by decide)]; exact b20) (by rw [zu_k _ _ _ _ _ (by decide)]; exact b22) (fun _ => by rw [show z_up τ 50 23 0 50 23 = (0 : Int64) from z_up_s _ _ _ _]; rfl) rfl rfl ?_
          · rw [Nat.sub_self] at this
            exact this
          intro σ4 τ4 s4 d20 d22 dw
          rw [← he2] at d20 dw ⊢
          have fin : ∀ kk : Int32, kk = nI (k_tok f sz p) → zT X d m_X7_next (fun w L2 μ2 => w = none ∧ L2 = L0 ∧ ∃ σ' τ', μ2 = mm σ' τ' r ∧ SN σ σ' ∧ σ' 50 22 = nI b ∧ σ' 50 21 = nI (k_tok f sz p) ∧ (k_tok f sz p = 1 ∨ k_tok f sz p = 2 ∨ k_tok f sz p = 3 → σ' 50 20 = nI (lx_e f sz p)) ∧ (k_tok f sz p = 2 → (τ' 50 23).toInt32 = lx_t f sz p) ∧ (k_tok f sz p = 3 → τ' 50 23 = (f b).toInt64)) 0 0 246 [some (.ref 50), some (.int (f b)), some (.int (nI (lx_e0 f sz b - b)))] [.int kk, .ref 50] L0 (mm σ4 τ4 r) := by
            intro kk hkk
            refine zT.step ct_X7_next_ok ?_
            refine And.intro ⟨by decide, _, rfl⟩ ?_
            refine zT.step ct_X7_next_ok ?_
            refine zT.step ct_X7_next_ok ?_
            refine And.intro rfl (And.intro rfl ⟨z_up σ4 50 21 kk, τ4, rfl, s4.trans (SN.up (Or.inr (Or.inl rfl))), ?_, ?_, ?_, ?_, ?_⟩)
            · rw [zu_k _ _ _ _ _ (by decide)]; exact d22
            · rw [z_up_s]; exact hkk
            · intro _; rw [zu_k _ _ _ _ _ (by decide), he]; exact d20
            · intro h
              have h4 : ¬ 4 < lx_e0 f sz b - b := fun z => by rw [hk, if_pos z] at h; cases h
              rw [ht2 h4]
              exact dw (by omega)
            · intro h
              rw [hk] at h
              split at h <;> cases h
          have hle := lx_e0_le (f := f) hbs
          refine zT.step ct_X7_next_ok ?_
          refine zT.step ct_X7_next_ok ?_
          refine zT.step ct_X7_next_ok ?_
          refine zT.step ct_X7_next_ok ?_
          refine And.intro (fun q5 => ?_) (fun q5 => ?_)
          · have q5 : nI (lx_e0 f sz b - b) ≤ nI 4 := q5
            have q5 := (nI_leI (by omega) (by omega)).mp q5
            refine zT.step ct_X7_next_ok ?_
            exact fin 2 (by rw [hk, if_neg (by omega)]; rfl)
          · have q5 : ¬ nI (lx_e0 f sz b - b) ≤ nI 4 := q5
            have q5 : 4 < lx_e0 f sz b - b := i_ge rfl rfl (by omega) (by omega) q5
            refine zT.step ct_X7_next_ok ?_
            refine zT.step ct_X7_next_ok ?_
            exact fin 4 (by rw [hk, if_pos q5]; rfl)
      · -- a word
        have q := fb1 q
        rw [q] at hk
        have hk : k_tok f sz p = 1 := hk
        have he2 : lx_e0 f sz b = lx_w isL f (sz - b) b := by unfold lx_e0; rw [if_neg (show ¬ sz ≤ b by omega), q]; rfl
        have lp : ∀ (m x e : Nat) (σ3 : zSg), x + m = sz → b ≤ x → SN σ σ3 → σ3 50 20 = nI x → σ3 50 22 = nI b → σ3 50 21 = 1 → e = lx_w isL f m x → e = lx_e f sz p → zT X d m_X7_next (fun w L2 μ2 => w = none ∧ L2 = L0 ∧ ∃ σ' τ', μ2 = mm σ' τ' r ∧ SN σ σ' ∧ σ' 50 22 = nI b ∧ σ' 50 21 = nI (k_tok f sz p) ∧ (k_tok f sz p = 1 ∨ k_tok f sz p = 2 ∨ k_tok f sz p = 3 → σ' 50 20 = nI (lx_e f sz p)) ∧ (k_tok f sz p = 2 → (τ' 50 23).toInt32 = lx_t f sz p) ∧ (k_tok f sz p = 3 → τ' 50 23 = (f b).toInt64)) 0 0 100 [some (.ref 50), some (.int (f b)), none] [] L0 (mm σ3 τ r) := by
          have done : ∀ (e : Nat) (σ3 : zSg), SN σ σ3 → σ3 50 20 = nI e → σ3 50 22 = nI b → σ3 50 21 = 1 → e = lx_e f sz p → zT X d m_X7_next (fun w L2 μ2 => w = none ∧ L2 = L0 ∧ ∃ σ' τ', μ2 = mm σ' τ' r ∧ SN σ σ' ∧ σ' 50 22 = nI b ∧ σ' 50 21 = nI (k_tok f sz p) ∧ (k_tok f sz p = 1 ∨ k_tok f sz p = 2 ∨ k_tok f sz p = 3 → σ' 50 20 = nI (lx_e f sz p)) ∧ (k_tok f sz p = 2 → (τ' 50 23).toInt32 = lx_t f sz p) ∧ (k_tok f sz p = 3 → τ' 50 23 = (f b).toInt64)) 0 0 321 [some (.ref 50), some (.int (f b)), none] [] L0 (mm σ3 τ r) := by
            intro e σ3 s3 c20 c22 c21 hee
            refine zT.step ct_X7_next_ok ?_
            refine And.intro rfl (And.intro rfl ⟨σ3, τ, rfl, s3, c22, by rw [c21, hk]; rfl, fun _ => by rw [c20, hee], fun h => ?_, fun h => ?_⟩)
            · rw [hk] at h; cases h
            · rw [hk] at h; cases h
          intro m
          induction m with
          | zero =>
            intro x e σ3 hx hbx s3 c20 c22 c21 he3 hee
            have he3 : e = x := he3
            refine zT.step ct_X7_next_ok ?_
            refine zT.step ct_X7_next_ok ?_
            refine zT.step ct_X7_next_ok ?_
            refine And.intro ⟨by decide, _, rfl⟩ ?_
            refine zT.step ct_X7_next_ok ?_
            refine And.intro ⟨by omega, by decide, _, rfl⟩ (zF.use (ba σ3 τ x s3 (by omega) c20) ?_)
            have e3 : bA f sz x = -1 := by unfold bA; rw [if_neg (by omega)]
            rw [e3]
            refine zT.step ct_X7_next_ok ?_
            refine zT.step ct_X7_next_ok ?_
            refine zT.step ct_X7_next_ok ?_
            refine zT.step ct_X7_next_ok ?_
            refine And.intro (by omega) (zF.use t_isL ?_)
            rw [isL_m]
            refine zT.step ct_X7_next_ok ?_
            refine And.intro (fun _ => ?_) (fun h => absurd rfl h)
            exact done e σ3 s3 (by rw [he3]; exact c20) c22 c21 hee
          | succ m ih =>
            intro x e σ3 hx hbx s3 c20 c22 c21 he3 hee
            have e3 : bA f sz x = f x := by unfold bA; rw [if_pos (by omega)]
            refine zT.step ct_X7_next_ok ?_
            refine zT.step ct_X7_next_ok ?_
            refine zT.step ct_X7_next_ok ?_
            refine And.intro ⟨by decide, _, rfl⟩ ?_
            refine zT.step ct_X7_next_ok ?_
            refine And.intro ⟨by omega, by decide, _, rfl⟩ (zF.use (ba σ3 τ x s3 (by omega) c20) ?_)
            rw [e3]
            refine zT.step ct_X7_next_ok ?_
            refine zT.step ct_X7_next_ok ?_
            refine zT.step ct_X7_next_ok ?_
            refine zT.step ct_X7_next_ok ?_
            refine And.intro (by omega) (zF.use t_isL ?_)
            refine zT.step ct_X7_next_ok ?_
            refine And.intro (fun q3 => ?_) (fun q3 => ?_)
            · have q3 := fb0 q3
              have he4 : e = x := by rw [he3]; unfold lx_w; rw [q3]; rfl
              exact done e σ3 s3 (by rw [he4]; exact c20) c22 c21 hee
            · have q3 := fb1 q3
              have he4 : e = lx_w isL f m (x + 1) := by rw [he3]; show (bif isL (f x) then _ else _) = _; rw [q3]; rfl
              refine zT.step ct_X7_next_ok ?_
              refine zT.step ct_X7_next_ok ?_
              refine zT.step ct_X7_next_ok ?_
              refine And.intro ⟨by decide, _, rfl⟩ ?_
              refine zT.step ct_X7_next_ok ?_
              refine zT.step ct_X7_next_ok ?_
              refine zT.step ct_X7_next_ok ?_
              refine And.intro ⟨by decide, _, rfl⟩ ?_
              refine zT.step ct_X7_next_ok ?_
              exact ih (x + 1) e (z_up σ3 50 20 (σ3 50 20 + 1)) (by omega) (by omega) (s3.trans (SN.up (Or.inl rfl))) (by rw [z_up_s, c20, nI_1]) (by rw [zu_k _ _ _ _ _ (by decide)]; exact c22) (by rw [zu_k _ _ _ _ _ (by decide)]; exact c21) he4 hee
        refine zT.step ct_X7_next_ok ?_
        refine zT.step ct_X7_next_ok ?_
        refine zT.step ct_X7_next_ok ?_
        refine And.intro ⟨by decide, _, rfl⟩ ?_
        exact lp (sz - b) b _ (z_up σ2 50 21 1) (by omega) (Nat.le_refl _) (s2.trans (SN.up (Or.inr (Or.inl rfl)))) (by rw [zu_k _ _ _ _ _ (by decide)]; exact b20) (by rw [zu_k _ _ _ _ _ (by decide)]; exact b22) (z_up_s _ _ _ _) rfl (by rw [he, he2])
    · have h : ¬ 0 ≤ bA f sz b := h
      have hge : sz ≤ b := by
        rcases Nat.lt_or_ge b sz with q | q
        · obtain ⟨k, hk2, hfk⟩ := hby b q
          refine absurd ?_ h
          unfold bA
          rw [if_pos q, hf]
          show 0 ≤ σ 51 (160 * t + b)
          rw [← s2.1 51 (by decide), hfk]
          exact nI_pos' (by omega)
        · exact q
      rw [if_pos hge] at hk
      refine zT.step ct_X7_next_ok ?_
      refine zT.step ct_X7_next_ok ?_
      refine zT.step ct_X7_next_ok ?_
      refine And.intro ⟨by decide, _, rfl⟩ ?_
      refine zT.step ct_X7_next_ok ?_
      refine zT.step ct_X7_next_ok ?_
      refine zT.step ct_X7_next_ok ?_
      refine And.intro ⟨by decide, _, rfl⟩ ?_
      refine zT.step ct_X7_next_ok ?_
      refine And.intro ⟨by decide, _, rfl⟩ ?_
      refine zT.step ct_X7_next_ok ?_
      refine zT.step ct_X7_next_ok ?_
      refine And.intro rfl (And.intro rfl ⟨z_up (z_up σ2 50 21 0) 50 22 (σ2 50 19), τ, rfl, ?_, ?_, ?_, ?_, ?_, ?_⟩)
      · exact (s2.trans (SN.up (Or.inr (Or.inl rfl)))).trans (SN.up (Or.inr (Or.inr rfl)))
      · rw [z_up_s, h19, show sz = b by omega]
      · rw [zu_k _ _ _ _ _ (by decide), z_up_s, hk]; rfl
      · intro h; rw [hk] at h; rcases h with h | h | h <;> cases h
      · intro h; rw [hk] at h; cases h
      · intro h; rw [hk] at h; cases h
  have lp : ∀ (m q : Nat), q + m = sz → lx_sk f m q = lx_b f sz p → zT X d m_X7_next (fun w L2 μ2 => w = none ∧ L2 = L0 ∧ ∃ σ' τ', μ2 = mm σ' τ' r ∧ SN σ σ' ∧ TF σ' τ' f sz p) 0 0 0 [some (.ref 50), none, none] [] L0 (mm (z_up σ 50 20 (nI q)) τ r) := by
    intro m
    induction m with
    | zero =>
      intro q hq hb
      have s1 : SN σ (z_up σ 50 20 (nI q)) := SN.up (Or.inl rfl)
      have e3 : bA f sz q = -1 := by unfold bA; rw [if_neg (by omega)]
      have b1 := ba _ τ q s1 (by omega) (z_up_s _ _ _ _)
      rw [e3] at b1
      refine zT.step ct_X7_next_ok ?_
      refine zT.step ct_X7_next_ok ?_
      refine zT.step ct_X7_next_ok ?_
      refine And.intro ⟨by decide, _, rfl⟩ ?_
      refine zT.step ct_X7_next_ok ?_
      refine And.intro ⟨by omega, by decide, _, rfl⟩ (zF.use b1 ?_)
      refine zT.step ct_X7_next_ok ?_
      refine zT.step ct_X7_next_ok ?_
      refine And.intro (fun h => absurd h (by decide)) (fun _ => ?_)
      refine zT.step ct_X7_next_ok ?_
      refine zT.step ct_X7_next_ok ?_
      refine zT.step ct_X7_next_ok ?_
      refine And.intro ⟨by decide, _, rfl⟩ ?_
      refine zT.step ct_X7_next_ok ?_
      refine And.intro ⟨by omega, by decide, _, rfl⟩ (zF.use b1 ?_)
      refine zT.step ct_X7_next_ok ?_
      refine zT.step ct_X7_next_ok ?_
      refine And.intro (fun h => absurd h (by decide)) (fun _ => ?_)
      exact rest q hb (by omega)
    | succ m ih =>
      intro q hq hb
      have s1 : SN σ (z_up σ 50 20 (nI q)) := SN.up (Or.inl rfl)
      have e3 : bA f sz q = f q := by unfold bA; rw [if_pos (by omega)]
      have b1 := ba _ τ q s1 (by omega) (z_up_s _ _ _ _)
      rw [e3] at b1
      have more : (f q = 32 ∨ f q = 10) → zT X d m_X7_next (fun w L2 μ2 => w = none ∧ L2 = L0 ∧ ∃ σ' τ', μ2 = mm σ' τ' r ∧ SN σ σ' ∧ TF σ' τ' f sz p) 0 0 26 [some (.ref 50), none, none] [] L0 (mm (z_up σ 50 20 (nI q)) τ r) := by
        intro hc
        refine zT.step ct_X7_next_ok ?_
        refine zT.step ct_X7_next_ok ?_
        refine zT.step ct_X7_next_ok ?_
        refine And.intro ⟨by decide, _, rfl⟩ ?_
        refine zT.step ct_X7_next_ok ?_
        refine zT.step ct_X7_next_ok ?_
        refine zT.step ct_X7_next_ok ?_
        refine And.intro ⟨by decide, _, rfl⟩ ?_
        refine zT.step ct_X7_next_ok ?_
        refine zT.eqm ?_ (ih (q + 1) (by omega) ?_)
        · show mm (z_up (z_up σ 50 20 (nI q)) 50 20 (z_up σ 50 20 (nI q) 50 20 + 1)) τ r = _
          rw [zu_zu, z_up_s, nI_1]
        · rw [← hb]
          show _ = (if f q = 32 ∨ f q = 10 then _ else _)
          rw [if_pos hc]
      refine zT.step ct_X7_next_ok ?_
      refine zT.step ct_X7_next_ok ?_
      refine zT.step ct_X7_next_ok ?_
      refine And.intro ⟨by decide, _, rfl⟩ ?_
      refine zT.step ct_X7_next_ok ?_
      refine And.intro ⟨by omega, by decide, _, rfl⟩ (zF.use b1 ?_)
      refine zT.step ct_X7_next_ok ?_
      refine zT.step ct_X7_next_ok ?_
      refine And.intro (fun h => more (Or.inl h)) (fun h1 => ?_)
      have h1 : ¬ f q = 32 := h1
      refine zT.step ct_X7_next_ok ?_
      refine zT.step ct_X7_next_ok ?_
      refine zT.step ct_X7_next_ok ?_
      refine And.intro ⟨by decide, _, rfl⟩ ?_
      refine zT.step ct_X7_next_ok ?_
      refine And.intro ⟨by omega, by decide, _, rfl⟩ (zF.use b1 ?_)
      refine zT.step ct_X7_next_ok ?_
      refine zT.step ct_X7_next_ok ?_
      refine And.intro (fun h => more (Or.inr h)) (fun h2 => ?_)
      have h2 : ¬ f q = 10 := h2
      refine rest q ?_ (by omega)
      rw [← hb]
      show _ = (if f q = 32 ∨ f q = 10 then _ else _)
      rw [if_neg (fun z => z.elim h1 h2)]
  refine zC.of mk_X7_next rfl ?_
  have := lp (sz - p) p (by omega) rfl
  rw [← h20] at this
  have e2 : z_up σ 50 20 (σ 50 20) = σ := by
    funext x y
    unfold z_up
    by_cases h : x = 50 ∧ y = 20
    · rw [if_pos h, h.1, h.2]
    · rw [if_neg h]
  rw [e2] at this
  exact this
