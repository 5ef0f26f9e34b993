/-! castWithout, look, dueOf, dueOfAll -/
theorem f_cn_congr {th th' : Nat → Nat → Int32} {lg lg' : Nat → Int32} {mo aw at_ : Int32} {cv : Bool} {n : Nat} (h1 : ∀ i, i < n → th i = th' i) (h2 : ∀ i, i < n → lg i = lg' i) : ∀ (m i : Nat) (s : Int32 × Int32 × Int32), i + m ≤ n → f_cn th lg mo aw at_ cv m i s = f_cn th' lg' mo aw at_ cv m i s := by
  intro m
  induction m with
  | zero => intro i s _; rfl
  | succ m ih =>
    intro i s hi
    show f_cn th lg mo aw at_ cv m (i + 1) (f_ci th lg mo aw at_ cv i s) = f_cn th' lg' mo aw at_ cv m (i + 1) (f_ci th' lg' mo aw at_ cv i s)
    rw [ih (i + 1) _ (by omega)]
    congr 1
    unfold f_ci
    rw [h1 i (by omega), h2 i (by omega)]
theorem f_occ_congr {on on' : Nat → Int32} : ∀ (n : Nat), (∀ i, i < n → on i = on' i) → f_occ on n = f_occ on' n := by
  intro n
  induction n with
  | zero => intro _; rfl
  | succ n ih =>
    intro h
    show f_occ on n ||| _ = f_occ on' n ||| _
    rw [ih (fun i hi => h i (by omega)), h n (by omega)]
theorem g_sw_congr {n : Nat} {th th' : Nat → Nat → Int32} {lg lg' : Nat → Int32} {h : Nat} {aw : Int32} (h1 : ∀ i, i < n → th i = th' i) (h2 : ∀ i, i < n → lg i = lg' i) : g_sw n th lg h aw = g_sw n th' lg' h aw := by
  have ho : f_occ (fun i => th i 3) n = f_occ (fun i => th' i 3) n := f_occ_congr n (fun i hi => by rw [h1 i hi])
  unfold g_sw
  rw [ho]
  generalize f_occ (fun i => th' i 3) n = oc
  have : ∀ (m k : Nat) (s : Int32 × Int32 × Int32), f_co n oc th lg (f_mo h) aw m k s = f_co n oc th' lg' (f_mo h) aw m k s := by
    intro m
    induction m with
    | zero => intro k s; rfl
    | succ m ih =>
      intro k s
      show f_co n oc th lg (f_mo h) aw m (k + 1) (f_ck n oc th lg (f_mo h) aw k s) = f_co n oc th' lg' (f_mo h) aw m (k + 1) (f_ck n oc th' lg' (f_mo h) aw k s)
      rw [ih]
      congr 1
      unfold f_ck
      rw [f_cn_congr h1 h2 n 0 s (by omega)]
  exact this 30 0 (0, 0, 0)
theorem z_cw {σ : zSg} {a A B C : Int32} (h : σ 1 11 = -1) : z_up (z_up (z_hs (z_up σ 1 11 a) A B) 1 9 C) 1 11 (-1) = z_hs σ C B := by
  funext x y
  unfold z_hs z_up
  by_cases hx : x = 1
  · subst hx
    by_cases h1 : y = 9
    · simp [h1]
    · by_cases h2 : y = 10
      · simp [h2]
      · by_cases h3 : y = 11
        · simp [h3, h]
        · simp [h1, h2, h3]
  · simp [hx]
theorem s_castWithout {X : zXs} {d n h x : Nat} {σ : zSg} {τ : Nat → Nat → Int64} {r : Option Nat} (hd : 4 ≤ d) (hn : n ≤ 8) (hm : σ 1 2 = nI n) (hh : h < 13) (ha : σ 1 11 = -1) : zF X d m_X4_castWithout [.ref 1, .int (nI x), .int (nI h)] L0 (mm σ τ r) none (mm (z_hs σ ((g_sw n (fun i => σ (8 + i)) (σ 4) h (nI x)).1 ||| 1 <<< (nI x &&& 31)) (g_sw n (fun i => σ (8 + i)) (σ 4) h (nI x)).2.1) τ r) := by
  have e : g_sw n (fun i => z_up σ 1 11 (nI x) (8 + i)) (z_up σ 1 11 (nI x) 4) h (z_up σ 1 11 (nI x) 1 11) = g_sw n (fun i => σ (8 + i)) (σ 4) h (nI x) := by
    rw [z_up_s, zu_n _ _ _ _ _ (by decide)]
    exact g_sw_congr (fun i _ => zu_n _ _ _ _ _ (by omega)) (fun _ _ => rfl)
  have hc := s_cast (X := X) (d := d - 1) (τ := τ) (r := r) (σ := z_up σ 1 11 (nI x)) (n := n) (h := h) (by omega) hn hm hh
  rw [e] at hc
  generalize g_sw n (fun i => σ (8 + i)) (σ 4) h (nI x) = sw at hc ⊢
  refine zF.of mk_X4_castWithout rfl ?_
  refine zT.step ct_X4_castWithout_ok ?_
  refine zT.step ct_X4_castWithout_ok ?_
  refine zT.step ct_X4_castWithout_ok ?_
  refine And.intro ⟨by decide, _, rfl⟩ ?_
  refine zT.step ct_X4_castWithout_ok ?_
  refine zT.step ct_X4_castWithout_ok ?_
  refine zT.step ct_X4_castWithout_ok ?_
  refine And.intro ⟨by omega, by decide, _, rfl⟩ (zF.use hc ?_)
  refine zT.step ct_X4_castWithout_ok ?_
  refine zT.step ct_X4_castWithout_ok ?_
  refine zT.step ct_X4_castWithout_ok ?_
  refine And.intro ⟨by decide, _, rfl⟩ ?_
  refine zT.step ct_X4_castWithout_ok ?_
  refine zT.step ct_X4_castWithout_ok ?_
  refine zT.step ct_X4_castWithout_ok ?_
  refine zT.step ct_X4_castWithout_ok ?_
  refine zT.step ct_X4_castWithout_ok ?_
  refine And.intro ⟨by decide, _, rfl⟩ ?_
  refine zT.step ct_X4_castWithout_ok ?_
  refine zT.step ct_X4_castWithout_ok ?_
  refine zT.step ct_X4_castWithout_ok ?_
  refine And.intro ⟨by decide, _, rfl⟩ ?_
  refine zT.step ct_X4_castWithout_ok ?_
  refine And.intro rfl (And.intro rfl ?_)
  exact congrArg (fun s => mm s τ r) (z_cw (a := nI x) (A := sw.1) (B := sw.2.1) (C := sw.1 ||| 1 <<< (nI x &&& 31)) ha)
/-- how long each is, what each would owe: of the class's memory -/
def cL (σ : zSg) (t h i : Nat) : Int32 := g_L (σ 1 6) (σ (8 + i)) (σ 1 5) (tvC σ t) h
def cD (σ : zSg) (t h i : Nat) : Int32 := g_D (σ 1 6) (σ (8 + i)) (σ 1 5) (tvC σ t) h
def cS (σ : zSg) (n t h : Nat) (aw : Int32) : Int32 × Int32 × Int32 := g_sw n (fun i => σ (8 + i)) (cL σ t h) h aw
/-- a look was taken -/
def LK (σ σ' : zSg) (n t h : Nat) (aw : Int32) : Prop := (∀ b, b ≠ 1 → b ≠ 4 → b ≠ 5 → b ≠ 6 → b ≠ 7 → σ' b = σ b) ∧ (∀ k, k ≠ 9 → k ≠ 10 → σ' 1 k = σ 1 k) ∧ (∀ i, i < n → σ' 4 i = cL σ t h i ∧ σ' 5 i = cD σ t h i) ∧ σ' 1 9 = (cS σ n t h aw).1 ∧ σ' 1 10 = (cS σ n t h aw).2.1
theorem s_look {X : zXs} {d n t h : Nat} {σ : zSg} {τ : Nat → Nat → Int64} {r : Option Nat} (hd : 5 ≤ d) (hn : n ≤ 8) (hm : σ 1 2 = nI n) (hh : h < 13) (ht : t < 6) (hr : σ 1 4 = nI t) (hW : RW σ t) : zC X d 0 0 m_X4_look [.ref 1, .int (nI h)] L0 (mm σ τ r) (fun w L2 μ2 => w = none ∧ L2 = L0 ∧ ∃ σ' : zSg, μ2 = mm σ' τ r ∧ LK σ σ' n t h (σ 1 11)) := by
  have lp : ∀ (m i : Nat) (σ1 : zSg), i + m = n → (∀ b, b ≠ 4 → b ≠ 5 → b ≠ 6 → b ≠ 7 → σ1 b = σ b) → (∀ j, j < i → σ1 4 j = cL σ t h j ∧ σ1 5 j = cD σ t h j) → zT X d m_X4_look (fun w L2 μ2 => w = none ∧ L2 = L0 ∧ ∃ σ' : zSg, μ2 = mm σ' τ r ∧ LK σ σ' n t h (σ 1 11)) 0 0 2 [some (.ref 1), some (.int (nI h)), some (.int (nI i))] [] L0 (mm σ1 τ r) := by
    intro m
    induction m with
    | zero =>
      intro i σ1 hi o1 h1
      have hi : i = n := by omega
      subst hi
      have r1 : σ1 1 = σ 1 := o1 1 (by decide) (by decide) (by decide) (by decide)
      have e : g_sw i (fun j => σ1 (8 + j)) (σ1 4) h (σ1 1 11) = cS σ i t h (σ 1 11) := by
        rw [r1]
        exact g_sw_congr (fun j hj => o1 _ (by omega) (by omega) (by omega) (by omega)) (fun j hj => (h1 j hj).1)
      have hc := s_cast (X := X) (d := d - 1) (τ := τ) (r := r) (σ := σ1) (n := i) (h := h) (by omega) hn (by rw [r1]; exact hm) hh
      rw [e] at hc
      refine zT.step ct_X4_look_ok ?_
      refine zT.step ct_X4_look_ok ?_
      refine zT.step ct_X4_look_ok ?_
      refine And.intro ⟨by decide, _, rfl⟩ ?_
      refine zT.step ct_X4_look_ok ?_
      refine And.intro (fun q => ?_) (fun q => ?_)
      · refine zT.step ct_X4_look_ok ?_
        refine zT.step ct_X4_look_ok ?_
        refine zT.step ct_X4_look_ok ?_
        refine And.intro ⟨by omega, by decide, _, rfl⟩ (zF.use hc ?_)
        refine zT.step ct_X4_look_ok ?_
        refine And.intro rfl (And.intro rfl ⟨_, rfl, ?_, ?_, ?_, ?_, ?_⟩)
        · intro b b1 b4 b5 b6 b7
          rw [z_hs_o _ _ _ _ b1, o1 b b4 b5 b6 b7]
        · intro k k9 k10
          show z_up (z_up σ1 1 9 _) 1 10 _ 1 k = _
          rw [z_up_n _ _ _ _ _ _ (fun z => k10 z.2), z_up_n _ _ _ _ _ _ (fun z => k9 z.2), r1]
        · intro j hj
          rw [z_hs_o _ _ _ _ (by decide), z_hs_o _ _ _ _ (by decide)]
          exact h1 j hj
        · rfl
        · rfl
      · have q : ¬ σ1 1 2 ≤ nI i := q
        rw [r1, hm] at q
        exact absurd ((i_le rfl rfl (by omega) (by omega)).mpr (Nat.le_refl _)) q
    | succ m ih =>
      intro i σ1 hi o1 h1
      have r1 : σ1 1 = σ 1 := o1 1 (by decide) (by decide) (by decide) (by decide)
      have th : σ1 (8 + i) = σ (8 + i) := o1 _ (by omega) (by omega) (by omega) (by omega)
      have W1 : RW σ1 t := fun q hq => by rw [o1 _ (by omega) (by omega) (by omega) (by omega)]; exact hW q hq
      have c1 : tvC σ1 t = tvC σ t := by funext q e; unfold tvC; rw [o1 _ (by omega) (by omega) (by omega) (by omega), o1 _ (by omega) (by omega) (by omega) (by omega)]
      have hme := s_measure (X := X) (d := d - 1) (τ := τ) (r := r) (σ := σ1) (i := i) (h := h) (t := t) (by omega) (by omega) hh ht (by rw [r1]; exact hr) W1
      rw [r1, th, c1] at hme
      refine zT.step ct_X4_look_ok ?_
      refine zT.step ct_X4_look_ok ?_
      refine zT.step ct_X4_look_ok ?_
      refine And.intro ⟨by decide, _, rfl⟩ ?_
      refine zT.step ct_X4_look_ok ?_
      refine And.intro (fun q => ?_) (fun q => ?_)
      · have q : σ1 1 2 ≤ nI i := q
        rw [r1, hm] at q
        have := (i_le (x := nI n) (y := nI i) rfl rfl (by omega) (by omega)).mp q
        omega
      refine zT.step ct_X4_look_ok ?_
      refine zT.step ct_X4_look_ok ?_
      refine zT.step ct_X4_look_ok ?_
      refine zT.step ct_X4_look_ok ?_
      refine And.intro ⟨by omega, by decide, _, rfl⟩ (zC.use hme (fun w L2 μ2 hw => ?_))
      obtain ⟨rfl, rfl, σ2, rfl, o2, l2, d2⟩ := hw
      refine zT.step ct_X4_look_ok ?_
      refine zT.step ct_X4_look_ok ?_
      rw [nI_1]
      refine ih (i + 1) σ2 (by omega) (fun b b4 b5 b6 b7 => (o2 b b4 b5 b6 b7).trans (o1 b b4 b5 b6 b7)) (fun j hj => ?_)
      rw [l2, d2]
      by_cases hji : j = i
      · subst hji
        rw [upd_at, upd_at]
        exact ⟨rfl, rfl⟩
      · have hj2 : j < i := by omega
        unfold upd
        rw [if_neg hji, if_neg hji]
        exact h1 j hj2
  refine zC.of mk_X4_look rfl ?_
  refine zT.step ct_X4_look_ok ?_
  refine zT.step ct_X4_look_ok ?_
  exact lp n 0 σ (by omega) (fun _ _ _ _ _ => rfl) (fun j hj => absurd hj (by omega))
def f_due (hd : Int32) (du : Nat → Int32) (i : Nat) : Int32 := if hd >>> (nI i &&& 31) &&& 1 = 1 then 0 else du i
theorem s_dueOf {X : zXs} {d i : Nat} {σ : zSg} {τ : Nat → Nat → Int64} {r : Option Nat} (hi : i < 8) : zF X d m_X4_dueOf [.ref 1, .int (nI i)] L0 (mm σ τ r) (some (.int (f_due (σ 1 9) (σ 5) i))) (mm σ τ r) := by
  refine zF.of mk_X4_dueOf rfl ?_
  refine zT.step ct_X4_dueOf_ok ?_
  refine zT.step ct_X4_dueOf_ok ?_
  refine And.intro ⟨by decide, _, rfl⟩ ?_
  refine zT.step ct_X4_dueOf_ok ?_
  refine zT.step ct_X4_dueOf_ok ?_
  refine zT.step ct_X4_dueOf_ok ?_
  refine zT.step ct_X4_dueOf_ok ?_
  refine zT.step ct_X4_dueOf_ok ?_
  refine zT.step ct_X4_dueOf_ok ?_
  refine And.intro (fun q => ?_) (fun q => ?_)
  · have q : σ 1 9 >>> (nI i &&& 31) &&& 1 = 1 := q
    refine zT.step ct_X4_dueOf_ok ?_
    refine zT.step ct_X4_dueOf_ok ?_
    refine zT.step ct_X4_dueOf_ok ?_
    exact And.intro (by unfold f_due; rw [if_pos q]) (And.intro rfl rfl)
  · have q : ¬ σ 1 9 >>> (nI i &&& 31) &&& 1 = 1 := q
    refine zT.step ct_X4_dueOf_ok ?_
    refine zT.step ct_X4_dueOf_ok ?_
    refine And.intro ⟨by decide, _, rfl⟩ ?_
    refine zT.step ct_X4_dueOf_ok ?_
    refine zT.step ct_X4_dueOf_ok ?_
    refine Exists.intro i (And.intro ⟨rfl, by decide, 8, rfl, hi, by decide⟩ ?_)
    refine zT.step ct_X4_dueOf_ok ?_
    exact And.intro (by unfold f_due; rw [if_neg q]; rfl) (And.intro rfl rfl)
def f_all (hd : Int32) (du : Nat → Int32) : Nat → Int32
  | 0 => 0
  | n + 1 => f_all hd du n + f_due hd du n
theorem f_all_congr {hd : Int32} {du du' : Nat → Int32} : ∀ (n : Nat), (∀ i, i < n → du i = du' i) → f_all hd du n = f_all hd du' n := by
  intro n
  induction n with
  | zero => intro _; rfl
  | succ n ih =>
    intro h
    show f_all hd du n + f_due hd du n = f_all hd du' n + f_due hd du' n
    rw [ih (fun i hi => h i (by omega))]
    unfold f_due
    rw [h n (by omega)]
theorem s_dueOfAll {X : zXs} {d n : Nat} {σ : zSg} {τ : Nat → Nat → Int64} {r : Option Nat} (hd : 1 ≤ d) (hn : n ≤ 8) (hm : σ 1 2 = nI n) : zF X d m_X4_dueOfAll [.ref 1] L0 (mm σ τ r) (some (.int (f_all (σ 1 9) (σ 5) n))) (mm σ τ r) := by
  have lp : ∀ (m i : Nat), i + m = n → zT X d m_X4_dueOfAll (fun w L2 μ2 => w = some (.int (f_all (σ 1 9) (σ 5) n)) ∧ L2 = L0 ∧ μ2 = mm σ τ r) 0 0 4 [some (.ref 1), some (.int (f_all (σ 1 9) (σ 5) i)), some (.int (nI i))] [] L0 (mm σ τ r) := by
    intro m
    induction m with
    | zero =>
      intro i hi
      have hi : i = n := by omega
      subst hi
      refine zT.step ct_X4_dueOfAll_ok ?_
      refine zT.step ct_X4_dueOfAll_ok ?_
      refine zT.step ct_X4_dueOfAll_ok ?_
      refine And.intro ⟨by decide, _, rfl⟩ ?_
      refine zT.step ct_X4_dueOfAll_ok ?_
      refine And.intro (fun h => ?_) (fun h => ?_)
      · refine zT.step ct_X4_dueOfAll_ok ?_
        refine zT.step ct_X4_dueOfAll_ok ?_
        exact And.intro rfl (And.intro rfl rfl)
      · have h : ¬ σ 1 2 ≤ nI i := h
        rw [hm] at h
        exact absurd ((i_le rfl rfl (by omega) (by omega)).mpr (Nat.le_refl _)) h
    | succ m ih =>
      intro i hi
      refine zT.step ct_X4_dueOfAll_ok ?_
      refine zT.step ct_X4_dueOfAll_ok ?_
      refine zT.step ct_X4_dueOfAll_ok ?_
      refine And.intro ⟨by decide, _, rfl⟩ ?_
      refine zT.step ct_X4_dueOfAll_ok ?_
      refine And.intro (fun h => ?_) (fun h => ?_)
      · have h : σ 1 2 ≤ nI i := h
        rw [hm] at h
        have := (i_le (x := nI n) (y := nI i) rfl rfl (by omega) (by omega)).mp h
        omega
      · refine zT.step ct_X4_dueOfAll_ok ?_
        refine zT.step ct_X4_dueOfAll_ok ?_
        refine zT.step ct_X4_dueOfAll_ok ?_
        refine zT.step ct_X4_dueOfAll_ok ?_
        refine And.intro ⟨by omega, by decide, _, rfl⟩ (zF.use (s_dueOf (by omega)) ?_)
        refine zT.step ct_X4_dueOfAll_ok ?_
        refine zT.step ct_X4_dueOfAll_ok ?_
        refine zT.step ct_X4_dueOfAll_ok ?_
        refine zT.step ct_X4_dueOfAll_ok ?_
        rw [nI_1]
        exact ih (i + 1) (by omega)
  refine zF.of mk_X4_dueOfAll rfl ?_
  refine zT.step ct_X4_dueOfAll_ok ?_
  refine zT.step ct_X4_dueOfAll_ok ?_
  refine zT.step ct_X4_dueOfAll_ok ?_
  refine zT.step ct_X4_dueOfAll_ok ?_
  exact lp n 0 (by omega)
/-- the same but for what a look leaves behind -/
def SE (σ σ' : zSg) : Prop := (∀ b, b ≠ 1 → b ≠ 4 → b ≠ 5 → b ≠ 6 → b ≠ 7 → σ' b = σ b) ∧ ∀ k, k ≠ 9 → k ≠ 10 → σ' 1 k = σ 1 k
theorem SE.rf {σ : zSg} : SE σ σ := ⟨fun _ _ _ _ _ _ => rfl, fun _ _ _ => rfl⟩
theorem SE.trans {a b c : zSg} (h1 : SE a b) (h2 : SE b c) : SE a c := ⟨fun x x1 x4 x5 x6 x7 => (h2.1 x x1 x4 x5 x6 x7).trans (h1.1 x x1 x4 x5 x6 x7), fun k k9 k10 => (h2.2 k k9 k10).trans (h1.2 k k9 k10)⟩
theorem LK.se {σ σ' : zSg} {n t h : Nat} {aw : Int32} (H : LK σ σ' n t h aw) : SE σ σ' := ⟨H.1, H.2.1⟩
theorem SE.th {a b : zSg} (h : SE a b) (i : Nat) : b (8 + i) = a (8 + i) := h.1 _ (by omega) (by omega) (by omega) (by omega) (by omega)
theorem SE.tv {a b : zSg} (h : SE a b) (t : Nat) : tvC b t = tvC a t := by
  funext q e
  unfold tvC
  rw [h.1 _ (by omega) (by omega) (by omega) (by omega) (by omega), h.1 _ (by omega) (by omega) (by omega) (by omega) (by omega)]
theorem SE.RW {a b : zSg} (h : SE a b) {t : Nat} (H : RW a t) : RW b t := fun q hq => by rw [h.1 _ (by omega) (by omega) (by omega) (by omega) (by omega)]; exact H q hq
theorem SE.eL {a b : zSg} (h : SE a b) (t x : Nat) : cL b t x = cL a t x := by
  funext i
  show g_L (b 1 6) (b (8 + i)) (b 1 5) (tvC b t) x = g_L (a 1 6) (a (8 + i)) (a 1 5) (tvC a t) x
  rw [h.th, h.tv, h.2 6 (by decide) (by decide), h.2 5 (by decide) (by decide)]
theorem SE.eD {a b : zSg} (h : SE a b) (t x : Nat) : cD b t x = cD a t x := by
  funext i
  show g_D (b 1 6) (b (8 + i)) (b 1 5) (tvC b t) x = g_D (a 1 6) (a (8 + i)) (a 1 5) (tvC a t) x
  rw [h.th, h.tv, h.2 6 (by decide) (by decide), h.2 5 (by decide) (by decide)]
theorem SE.eS {a b : zSg} (h : SE a b) (n t x : Nat) (aw : Int32) : cS b n t x aw = cS a n t x aw := by
  show g_sw n (fun i => b (8 + i)) (cL b t x) x aw = g_sw n (fun i => a (8 + i)) (cL a t x) x aw
  rw [h.eL]
  exact g_sw_congr (fun i _ => h.th i) (fun _ _ => rfl)
