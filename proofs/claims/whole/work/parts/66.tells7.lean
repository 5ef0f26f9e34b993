/-! the reference's tells -/
def SH (a σ : zSg) : Prop := ∀ s, s < 4 → (a (42 + 2 * s) 1 = -1 ∧ σ 60 s = 0) ∨ ∃ so sz, so < 3 ∧ sz ≤ 40 ∧ a (42 + 2 * s) 1 = nI so ∧ a (42 + 2 * s) 2 = nI sz ∧ σ 60 s = 1 ∧ σ 61 s = nI so ∧ σ 62 s = nI sz ∧ ∀ i, i < sz → σ 63 (40 * s + i) = a (43 + 2 * s) i
theorem RE.ru {a σ : zSg} {n t m t' : Nat} (H : RE a σ n t m) (ht : t' < m) : RE (z_up a 1 4 (nI t')) (z_up σ 50 4 (nI t')) n t' m := by
  obtain ⟨⟨h1, h2, h3, h4, h5, h6⟩, ⟨h7, h8⟩, h9, h10, h11⟩ := H
  have e8 : ∀ i, z_up a 1 4 (nI t') (8 + i) = a (8 + i) := fun i => zu_n _ _ _ _ _ (by omega)
  refine ⟨⟨h1, by rw [zu_k _ _ _ _ _ (by decide)]; exact h2, ht, h4, by rw [zu_k _ _ _ _ _ (by decide)]; exact h5, z_up_s _ _ _ _⟩, ⟨by rw [zu_k _ _ _ _ _ (by decide), zu_k _ _ _ _ _ (by decide)]; exact h7, by rw [zu_k _ _ _ _ _ (by decide), zu_k _ _ _ _ _ (by decide)]; exact h8⟩, fun i hi => ?_, fun i hi => by rw [e8]; exact h10 i hi, fun t' ht => ((h11 t' ht).mono (zu_n _ _ _ _ _ (by decide)) (zu_n _ _ _ _ _ (by decide))).cls (fun b hb => zu_n _ _ _ _ _ (by omega))⟩
  rw [zu_n _ _ _ _ _ (show (54 : Nat) ≠ 50 by decide), zu_n _ _ _ _ _ (show (55 : Nat) ≠ 50 by decide), e8]
  exact h9 i hi
theorem SG.up5 {σ σ' : zSg} {b k : Nat} {v : Int32} (h : SG σ σ') : SG (z_up σ b k v) (z_up σ' b k v) := by
  refine ⟨fun x x0 x6 x7 x8 => ?_, fun j hj => ?_⟩
  · by_cases q : x = b
    · subst q; rw [zu_s, zu_s, h.1 x x0 x6 x7 x8]
    · rw [zu_n _ _ _ _ _ q, zu_n _ _ _ _ _ q, h.1 x x0 x6 x7 x8]
  · by_cases q : 50 = b
    · subst q
      by_cases q2 : j = k
      · subst q2; rw [z_up_s, z_up_s]
      · rw [zu_k _ _ _ _ _ q2, zu_k _ _ _ _ _ q2, h.2 j hj]
    · rw [zu_n _ _ _ _ _ q, zu_n _ _ _ _ _ q, h.2 j hj]
/-- the reference's tries: the bits of what fits -/
def rM (P : Nat → Bool) (lo : Nat) : Nat → Int32
  | 0 => 0
  | j + 1 => rM P lo j ||| (if P (lo + j) = true then 1 else 0) <<< (nI (lo + j) &&& 31)
theorem rM_b {P : Nat → Bool} {lo : Nat} : ∀ (j i : Nat), lo + j ≤ 32 → i < 32 → (bt (rM P lo j) i = true ↔ lo ≤ i ∧ i < lo + j ∧ P i = true) := by
  intro j
  induction j with
  | zero => intro i _ _; exact ⟨fun z => (by rw [show rM P lo 0 = 0 from rfl, b_0] at z; cases z), fun z => by omega⟩
  | succ j ih =>
    intro i hj hi
    have ih := ih i (by omega) hi
    show bt (rM P lo j ||| (if P (lo + j) = true then 1 else 0) <<< (nI (lo + j) &&& 31)) i = true ↔ _
    rw [b_or, Bool.or_eq_true, ih]
    by_cases q : P (lo + j) = true
    · rw [if_pos q, b_w (by omega) hi, decide_eq_true_eq]
      constructor
      · rintro (h | h)
        · exact ⟨h.1, by omega, h.2.2⟩
        · exact ⟨by omega, by omega, by rw [h]; exact q⟩
      · intro h
        by_cases e : i = lo + j
        · exact Or.inr e
        · exact Or.inl ⟨h.1, by omega, h.2.2⟩
    · rw [if_neg q, b_shl (lo + j) (by omega) 0 hi, b_0, Bool.and_false]
      constructor
      · rintro (h | h)
        · exact ⟨h.1, by omega, h.2.2⟩
        · cases h
      · intro h
        by_cases e : i = lo + j
        · rw [e] at h; exact absurd h.2.2 q
        · exact Or.inl ⟨h.1, by omega, h.2.2⟩
theorem fi_b {f : Nat → Int32} {x : Int32} : ∀ (m v : Nat) (fit : Int32), v + m ≤ 32 → ∀ i, i < 32 → (bt (cFi f x m v fit) i = true ↔ bt fit i = true ∧ (v ≤ i → i < v + m → f i = x)) := by
  intro m
  induction m with
  | zero => intro v fit _ i _; exact ⟨fun h => ⟨h, fun h1 h2 => by omega⟩, fun h => h.1⟩
  | succ m ih =>
    intro v fit hv i hi
    show bt (cFi f x m (v + 1) (if fit >>> (nI v &&& 31) &&& 1 = 0 then fit else if f v = x then fit else fit &&& (1 <<< (nI v &&& 31) ^^^ -1))) i = true ↔ _
    rw [ih (v + 1) _ (by omega) i hi]
    by_cases q : fit >>> (nI v &&& 31) &&& 1 = 0
    · rw [if_pos q]
      have q := (b_is0 (by omega)).mp q
      constructor
      · intro h
        refine ⟨h.1, fun h1 h2 => ?_⟩
        by_cases e : i = v
        · rw [e, q] at h; cases h.1
        · exact h.2 (by omega) (by omega)
      · exact fun h => ⟨h.1, fun h1 h2 => h.2 (by omega) (by omega)⟩
    · rw [if_neg q]
      by_cases q2 : f v = x
      · rw [if_pos q2]
        constructor
        · intro h
          refine ⟨h.1, fun h1 h2 => ?_⟩
          by_cases e : i = v
          · rw [e]; exact q2
          · exact h.2 (by omega) (by omega)
        · exact fun h => ⟨h.1, fun h1 h2 => h.2 (by omega) (by omega)⟩
      · rw [if_neg q2, b_and, b_xor, b_w (by omega) hi, b_m1 i hi, Bool.xor_true, Bool.and_eq_true, Bool.not_eq_true', decide_eq_false_iff_not]
        constructor
        · intro h
          exact ⟨h.1.1, fun h1 h2 => h.2 (by have := h.1.2; omega) (by omega)⟩
        · intro h
          refine ⟨⟨h.1, fun e => ?_⟩, fun h1 h2 => h.2 (by omega) (by omega)⟩
          have := h.2 (by omega) (by omega)
          rw [e] at this
          exact q2 this
theorem fh_b {du : Nat → Nat → Int32} {tl : Nat → Int32} {lo up : Nat} (hl : lo ≤ up) (hh : up < 32) : ∀ (m h : Nat) (fit : Int32), (∀ i, i < 32 → bt fit i = true → lo ≤ i ∧ i ≤ up) → ∀ i, i < 32 → (bt (cFh du tl lo up m h fit) i = true ↔ bt fit i = true ∧ ∀ j, h ≤ j → j < h + m → du j i = tl j) := by
  intro m
  induction m with
  | zero => intro h fit _ i _; exact ⟨fun z => ⟨z, fun j h1 h2 => by omega⟩, fun z => z.1⟩
  | succ m ih =>
    intro h fit hf i hi
    show bt (if fit = 0 then fit else cFh du tl lo up m (h + 1) (cFi (du h) (tl h) (up + 1 - lo) lo fit)) i = true ↔ _
    by_cases q : fit = 0
    · rw [if_pos q, q, b_0]
      exact ⟨fun z => (by cases z), fun z => (by cases z.1)⟩
    · have fb := fun i hi => fi_b (f := du h) (x := tl h) (up + 1 - lo) lo fit (by omega) i hi
      rw [if_neg q, ih (h + 1) _ (fun i hi z => hf i hi ((fb i hi).mp z).1) i hi, fb i hi]
      constructor
      · rintro ⟨⟨h1, h2⟩, h3⟩
        refine ⟨h1, fun j j1 j2 => ?_⟩
        by_cases e : j = h
        · have := hf i hi h1
          rw [e]; exact h2 this.1 (by omega)
        · exact h3 j (by omega) (by omega)
      · rintro ⟨h1, h2⟩
        exact ⟨⟨h1, fun _ _ => h2 h (Nat.le_refl _) (by omega)⟩, fun j j1 j2 => h2 j (by omega) (by omega)⟩
theorem tx_b {f : Nat → Bool} : ∀ (m i : Nat), m ≤ 6 → i < 32 → (bt (cTx f m) i = true ↔ i < m ∧ f i = true) := by
  intro m
  induction m with
  | zero => intro i _ _; exact ⟨fun z => (by rw [show cTx f 0 = 0 from rfl, b_0] at z; cases z), fun z => by omega⟩
  | succ m ih =>
    intro i hm hi
    have ih := ih i (by omega) hi
    show bt (bif f m then cTx f m ||| 1 <<< (nI m &&& 31) else cTx f m) i = true ↔ _
    cases q : f m with
    | true =>
      show bt (cTx f m ||| 1 <<< (nI m &&& 31)) i = true ↔ _
      rw [b_or, Bool.or_eq_true, ih, b_w (by omega) hi, decide_eq_true_eq]
      constructor
      · rintro (h | h)
        · exact ⟨by omega, h.2⟩
        · exact ⟨by omega, by rw [h]; exact q⟩
      · intro h
        by_cases e : i = m
        · exact Or.inr e
        · exact Or.inl ⟨by omega, h.2⟩
    | false =>
      show bt (cTx f m) i = true ↔ _
      rw [ih]
      constructor
      · exact fun h => ⟨by omega, h.2⟩
      · intro h
        by_cases e : i = m
        · rw [e, q] at h; cases h.2
        · exact ⟨by omega, h.2⟩
theorem so_iff {du tl : Nat → Int32} : ∀ (m h : Nat), (cSo du tl m h = true ↔ ∀ j, h ≤ j → j < h + m → du j = tl j) := by
  intro m
  induction m with
  | zero => intro h; exact ⟨fun _ j h1 h2 => by omega, fun _ => rfl⟩
  | succ m ih =>
    intro h
    show (if du h = tl h then cSo du tl m (h + 1) else false) = true ↔ _
    by_cases q : du h = tl h
    · rw [if_pos q, ih]
      constructor
      · intro z j h1 h2
        by_cases e : j = h
        · rw [e]; exact q
        · exact z j (by omega) (by omega)
      · exact fun z j h1 h2 => z j (by omega) (by omega)
    · rw [if_neg q]
      exact ⟨fun z => (by cases z), fun z => absurd (z h (Nat.le_refl _) (by omega)) q⟩
theorem bits4 : ∀ i, i < 32 → bt (f_bits (nI 0) (nI 5 + 1)) i = decide (0 ≤ i ∧ i ≤ 5) ∧ bt (f_bits (nI 0) (nI 9 + 1)) i = decide (0 ≤ i ∧ i ≤ 9) ∧ bt (f_bits (nI 1) (nI 20 + 1)) i = decide (1 ≤ i ∧ i ≤ 20) ∧ bt (f_bits (nI 0) (nI 29 + 1)) i = decide (0 ≤ i ∧ i ≤ 29) := by decide +kernel
theorem fh_rM {du : Nat → Nat → Int32} {tl : Nat → Int32} {lo hi : Nat} {fit : Int32} (hl : lo ≤ hi) (hh : hi < 32) (hf : ∀ i, i < 32 → bt fit i = decide (lo ≤ i ∧ i ≤ hi)) : cFh du tl lo hi 13 0 fit = rM (fun v => decide (cFo (fun h => du h v) tl 13 0 = -1)) lo (hi + 1 - lo) := by
  refine b_ext fun i hi => Bool.eq_iff_iff.mpr ?_
  rw [fh_b hl hh 13 0 fit (fun i hi z => by rw [hf i hi] at z; exact of_decide_eq_true z) i hi, rM_b _ i (by omega) hi, hf i hi, decide_eq_true_eq, decide_eq_true_eq, fo_iff 13 0 (by decide)]
  constructor
  · exact fun h => ⟨h.1.1, by omega, h.2⟩
  · exact fun h => ⟨⟨h.1, by omega⟩, h.2.2⟩
theorem tx_rM {du : Nat → Nat → Int32} {tl : Nat → Int32} {m : Nat} (hm : m ≤ 6) : cTx (fun v => cSo (fun h => du v h) tl 13 0) m = rM (fun v => decide (cFo (fun h => du v h) tl 13 0 = -1)) 0 m := by
  refine b_ext fun i hi => Bool.eq_iff_iff.mpr ?_
  rw [tx_b m i hm hi, rM_b m i (by omega) hi, so_iff, decide_eq_true_eq, fo_iff 13 0 (by decide)]
  exact ⟨fun h => ⟨Nat.zero_le _, by omega, h.2⟩, fun h => ⟨by omega, h.2.2⟩⟩
theorem t_tries {X : zXs} {d n m x s w lo hi b k : Nat} {σ : zSg} {τ : Nat → Nat → Int64} {r : Option Nat} {tl : Nat → Int32} {A : Nat → zSg} {T : Nat → Nat} {z : Int32} {Q : zRQ} (hd : 57 ≤ d) (hw : w < 7) (hx : x < n) (hn : n ≤ 8) (hs : s < 4) (hl : ∀ (σ1 : zSg) v, w_lay σ1 w x v = z_up σ1 b k v) (hb : b ≠ 63) (hbk : ¬ (50 = b ∧ 27 = k)) (hR : ∀ v, lo ≤ v → v ≤ hi → RE (A v) (z_up σ b k (nI v)) n (T v) m) (hh : hi < 32) (hlh : lo ≤ hi + 1) (hlo : lwR w = nI lo) (htl : ∀ h, h < 13 → σ 63 (40 * s + h) = tl h) (ha : σ 50 27 = -1) (hQ : ∀ σ' τ', SG σ σ' → Q (some (.int (rM (fun v => decide (cFo (fun h => cDu (A v) n (T v) h x) tl 13 0 = -1)) lo (hi + 1 - lo)))) L0 (mm σ' τ' r)) (σ0 : zSg) (τ0 : Nat → Nat → Int64) (S0 : SG σ σ0) : zT X d m_X7_tells Q 0 0 156 [some (.ref 50), some (.int (nI s)), some (.int (nI x)), some (.int z), some (.int (nI w)), some (.int (σ b k)), none, none, none] [.int (nI hi)] L0 (mm σ0 τ0 r) := by
  obtain ⟨P, hP⟩ : ∃ P : Nat → Bool, P = (fun v => decide (cFo (fun h => cDu (A v) n (T v) h x) tl 13 0 = -1)) := ⟨_, rfl⟩
  rw [← hP] at hQ
  have lp : ∀ (c j : Nat) (σ1 : zSg) (τ1 : Nat → Nat → Int64) (u : Int32), lo + j + c = hi + 1 → SG (z_up σ b k u) σ1 → zT X d m_X7_tells Q 0 0 168 [some (.ref 50), some (.int (nI s)), some (.int (nI x)), some (.int z), some (.int (nI w)), some (.int (σ b k)), some (.int (nI hi)), some (.int (rM P lo j)), some (.int (nI (lo + j)))] [] L0 (mm σ1 τ1 r) := by
    intro c
    induction c with
    | zero =>
      intro j σ1 τ1 u hj S
      have ej : hi + 1 - lo = j := by omega
      have S2 := S.up5 (b := b) (k := k) (v := σ b k)
      rw [zu_zu, zu_id] at S2
      refine zT.step ct_X7_tells_ok ?_
      refine zT.step ct_X7_tells_ok ?_
      refine zT.step ct_X7_tells_ok ?_
      refine And.intro (fun _ => ?_) (fun q => ?_)
      · refine zT.step ct_X7_tells_ok ?_
        refine zT.step ct_X7_tells_ok ?_
        refine zT.step ct_X7_tells_ok ?_
        refine zT.step ct_X7_tells_ok ?_
        refine zT.step ct_X7_tells_ok ?_
        refine And.intro ⟨by omega, by decide, _, rfl⟩ (zF.use (t7_lays (i := x) hw (fun _ _ => ⟨rfl, by omega⟩)) ?_)
        rw [hl]
        refine zT.step ct_X7_tells_ok ?_
        refine zT.step ct_X7_tells_ok ?_
        have := hQ _ τ1 S2
        rw [ej] at this
        exact this
      · have q : ¬ nI hi < nI (lo + j) := q
        exact absurd ((nI_ltI (by omega) (by omega)).mpr (by omega)) q
    | succ c ih =>
      intro j σ1 τ1 u hj S
      have S2 := S.up5 (b := b) (k := k) (v := nI (lo + j))
      rw [zu_zu] at S2
      have nx : ∀ (σ2 : zSg) (τ2 : Nat → Nat → Int64) (v : Int32), SG (z_up σ b k (nI (lo + j))) σ2 → v = (if P (lo + j) = true then 1 else 0) → zT X d m_X7_tells Q 0 0 201 [some (.ref 50), some (.int (nI s)), some (.int (nI x)), some (.int z), some (.int (nI w)), some (.int (σ b k)), some (.int (nI hi)), some (.int (rM P lo j)), some (.int (nI (lo + j)))] [.int v, .int (rM P lo j)] L0 (mm σ2 τ2 r) := by
        intro σ2 τ2 v S3 hv
        have := ih (j + 1) σ2 τ2 (nI (lo + j)) (by omega) S3
        refine zT.step ct_X7_tells_ok ?_
        refine zT.step ct_X7_tells_ok ?_
        refine zT.step ct_X7_tells_ok ?_
        refine zT.step ct_X7_tells_ok ?_
        refine zT.step ct_X7_tells_ok ?_
        refine zT.step ct_X7_tells_ok ?_
        rw [nI_1, hv]
        exact this
      refine zT.step ct_X7_tells_ok ?_
      refine zT.step ct_X7_tells_ok ?_
      refine zT.step ct_X7_tells_ok ?_
      refine And.intro (fun q => ?_) (fun _ => ?_)
      · have q : nI hi < nI (lo + j) := q
        have := (nI_ltI (by omega) (by omega)).mp q
        omega
      refine zT.step ct_X7_tells_ok ?_
      refine zT.step ct_X7_tells_ok ?_
      refine zT.step ct_X7_tells_ok ?_
      refine zT.step ct_X7_tells_ok ?_
      refine zT.step ct_X7_tells_ok ?_
      refine And.intro ⟨by omega, by decide, _, rfl⟩ (zF.use (t7_lays (i := x) hw (fun _ _ => ⟨rfl, by omega⟩)) ?_)
      rw [hl]
      have hf := t_firstOther (X := X) (d := d - 1) (τ := τ1) (r := r) (tl := tl) (s := s) (by omega) ((hR (lo + j) (by omega) (by omega)).sg S2) hx hs (fun h hh => by rw [S2.1 63 (by decide) (by decide) (by decide) (by decide), zu_n _ _ _ _ _ (fun z => hb z.symm)]; exact htl h hh) (by rw [S2.2 27 (by omega), z_up_n _ _ _ _ _ _ hbk]; exact ha)
      refine zT.step ct_X7_tells_ok ?_
      refine zT.step ct_X7_tells_ok ?_
      refine zT.step ct_X7_tells_ok ?_
      refine zT.step ct_X7_tells_ok ?_
      refine zT.step ct_X7_tells_ok ?_
      refine And.intro ⟨by omega, by decide, _, rfl⟩ (zC.use hf (fun y L2 μ2 hy => ?_))
      obtain ⟨rfl, rfl, σ2, τ2, rfl, S3⟩ := hy
      have eP : ∀ q : Prop, (cFo (fun h => cDu (A (lo + j)) n (T (lo + j)) h x) tl 13 0 = -1 ↔ q) → (P (lo + j) = true ↔ q) := fun q h => by rw [hP]; exact (decide_eq_true_iff).trans h
      have S4 := S2.trans S3
      refine zT.step ct_X7_tells_ok ?_
      refine zT.step ct_X7_tells_ok ?_
      refine And.intro (fun q => ?_) (fun q => ?_)
      · have q := (eP _ Iff.rfl).mpr q
        refine zT.step ct_X7_tells_ok ?_
        refine zT.step ct_X7_tells_ok ?_
        exact nx σ2 τ2 1 S4 (by rw [if_pos q])
      · have q := fun z => q ((eP _ Iff.rfl).mp z)
        refine zT.step ct_X7_tells_ok ?_
        exact nx σ2 τ2 0 S4 (by rw [if_neg q])
  refine zT.step ct_X7_tells_ok ?_
  refine zT.step ct_X7_tells_ok ?_
  refine zT.step ct_X7_tells_ok ?_
  refine zT.step ct_X7_tells_ok ?_
  refine zT.step ct_X7_tells_ok ?_
  refine And.intro (by omega) (zF.use (t_leastOf hw) ?_)
  rw [hlo]
  refine zT.step ct_X7_tells_ok ?_
  exact lp (hi + 1 - lo) 0 σ0 τ0 (σ b k) (by omega) (by rw [zu_id]; exact S0)
